/-! ===== what a call is answered with: 0, or the place of what it throws ===== -/
abbrev isF (f fi : Int32) : Prop := 0 ≤ f ∧ f ≤ fi - 1
abbrev stpB (kd th : Int32) : Prop := (kd = 3 ∧ 500 ≤ th ∧ th ≤ 1000) ∨ (¬ kd = 3 ∧ 1 ≤ th ∧ th ≤ 2000)
def pathC (a b : Int32) : Int32 := if 0 ≤ a ∧ a ≤ 7 then (if -1000 ≤ b ∧ b ≤ 1000 then 0 else 2) else 1
def filtC (kd n th fi : Int32) : Int32 := if 0 ≤ kd ∧ kd ≤ 3 then (if 1 ≤ n ∧ n ≤ (if kd = 3 then 4 else 8) then (if stpB kd th then (if fi = 6 then 2 else 0) else 1) else 1) else 1
def stepC (f th fi kd : Int32) : Int32 := if isF f fi then (if stpB kd th then 0 else 2) else 1
def watchC (f a b fi : Int32) : Int32 := if isF f fi then (if 0 ≤ a ∧ a ≤ 1000 then (if 0 ≤ b ∧ b ≤ 20 then 0 else 2) else 2) else 1
def beginC (f fi : Int32) : Int32 := if isF f fi then 0 else 1
def feedC (a b sa : Int32) : Int32 := if -1000 ≤ a ∧ a ≤ 1000 then (if -1000 ≤ b ∧ b ≤ 1000 then (if sa = 2000 then 2 else 0) else 1) else 1
def scriptC (a b sa : Int32) : Int32 := if 0 ≤ a ∧ a ≤ 2000 then (if 1 ≤ b ∧ b ≤ 100 then (if sa + b ≤ 2000 then 0 else 2) else 1) else 1
def weightC (f a fi n : Int32) : Int32 := if isF f fi then (if 0 ≤ a ∧ a ≤ n - 1 then 0 else 1) else 1
def ofC (f a fi : Int32) : Int32 := if isF f fi then (if 0 ≤ a ∧ a ≤ 3 then 0 else 2) else 1
def batchC (a : Int32) : Int32 := if 0 ≤ a ∧ a ≤ 1 then 0 else 1
def squareC (f a b fi n kd : Int32) : Int32 := if isF f fi then (if 0 ≤ a ∧ a ≤ n - 1 then (if 0 ≤ b ∧ b ≤ n - 1 then (if kd = 3 then 0 else 2) else 1) else 1) else 1
theorem in_tn {x : Int32} (h : 0 ≤ x) : x = nI (tn x) := by
  obtain ⟨j, hj, rfl⟩ := nI_of (Int32.not_lt.mpr h)
  rw [tn_nI hj]
theorem tn_le {x : Int32} {b : Nat} (h : 0 ≤ x) (hb : b < 2147483648) (h1 : x ≤ nI b) : tn x ≤ b := by
  obtain ⟨j, hj, rfl⟩ := nI_of (Int32.not_lt.mpr h)
  rw [tn_nI hj]
  exact (nI_leI hj hb).mp h1
theorem nI_pm {n : Nat} (h0 : 0 < n) : nI n - 1 = nI (n - 1) := by
  obtain ⟨k, rfl⟩ : ∃ k, n = k + 1 := ⟨n - 1, by omega⟩
  exact nI_pred k
theorem in_m1 {x : Int32} {n : Nat} (hn : n < 2147483648) (h : 0 ≤ x ∧ x ≤ nI n - 1) : x = nI (tn x) ∧ tn x < n := by
  refine ⟨in_tn h.1, ?_⟩
  by_cases h0 : 0 < n
  · have := tn_le h.1 (by omega) (nI_pm h0 ▸ h.2)
    omega
  · have : n = 0 := by omega
    subst this
    have h2 := Int32.le_trans h.1 h.2
    exact absurd h2 (by decide)
theorem m1_in {j n : Nat} (hn : n < 2147483648) (h : j < n) : 0 ≤ nI j ∧ nI j ≤ nI n - 1 := by
  refine ⟨nI_pos' (by omega), ?_⟩
  rw [nI_pm (by omega)]
  exact nI_le (by omega) (by omega)
theorem in_b {j b : Nat} (hb : b < 2147483648) (h : j ≤ b) : 0 ≤ nI j ∧ nI j ≤ nI b := ⟨nI_pos' (by omega), nI_le h hb⟩
theorem stp_1 {kd th : Int32} (h : stpB kd th) : (if kd = 3 then (if 500 ≤ th ∧ th ≤ 1000 then (1 : Int32) else 0) else (if 1 ≤ th ∧ th ≤ 2000 then 1 else 0)) = 1 := by
  rcases h with ⟨a, b⟩ | ⟨a, b⟩
  · rw [if_pos a, if_pos b]
  · rw [if_neg a, if_pos b]
theorem stp_0 {kd th : Int32} (h : ¬ stpB kd th) : (if kd = 3 then (if 500 ≤ th ∧ th ≤ 1000 then (1 : Int32) else 0) else (if 1 ≤ th ∧ th ≤ 2000 then 1 else 0)) = 0 := by
  by_cases a : kd = 3
  · rw [if_pos a, if_neg (fun b => h (Or.inl ⟨a, b⟩))]
  · rw [if_neg a, if_neg (fun b => h (Or.inr ⟨a, b⟩))]

set_option maxHeartbeats 4000000 in
set_option maxRecDepth 100000 in
/-- path: where it throws -/
theorem m_X4_path_no (l : Launch) (G : va_G) (q : Nat → ClassId) (sz : Nat) (om : Nat) (am : Nat → Nat) (th sa : Int32) (mi : UInt64) (nf : Nat) (xp xh : Int32) (hc : ¬ pathC xp xh = 0) : Met l yX4_path wsX4_path ({ frames := 1, cells := 0, slots := 0, locals := 22 } : Jvm.Room) (PreW G q [.ref om, .int xp, .int xh] [(om, .inr (4, [.int th, .int sa, .ref (am 0), .ref (am 1), .double mi, .ref (am 2), .ref (am 3), .ref (am 4), .int (nI nf), .ref (am 5), .ref (am 6), .ref (am 7), .ref (am 8), .ref (am 9), .ref (am 10), .ref (am 11), .ref (am 12), .ref (am 13), .ref (am 14), .ref (am 15), .ref (am 16), .ref (am 17), .ref (am 18), .ref (am 19)]))] sz) (va_Qi (fun (_ : Int32) (u : Int32) => u = pathC xp xh) (fun (u : Int32) t => EndA G (va_A [(om, .inr (4, [.int th, .int sa, .ref (am 0), .ref (am 1), .double mi, .ref (am 2), .ref (am 3), .ref (am 4), .int (nI nf), .ref (am 5), .ref (am 6), .ref (am 7), .ref (am 8), .ref (am 9), .ref (am 10), .ref (am 11), .ref (am 12), .ref (am 13), .ref (am 14), .ref (am 15), .ref (am 16), .ref (am 17), .ref (am 18), .ref (am 19)]))] sz) [(om, .inr (4, [.int u, .int sa, .ref (am 0), .ref (am 1), .double mi, .ref (am 2), .ref (am 3), .ref (am 4), .int (nI nf), .ref (am 5), .ref (am 6), .ref (am 7), .ref (am 8), .ref (am 9), .ref (am 10), .ref (am 11), .ref (am 12), .ref (am 13), .ref (am 14), .ref (am 15), .ref (am 16), .ref (am 17), .ref (am 18), .ref (am 19)]))] t) (va_A [(om, .inr (4, [.int th, .int sa, .ref (am 0), .ref (am 1), .double mi, .ref (am 2), .ref (am 3), .ref (am 4), .int (nI nf), .ref (am 5), .ref (am 6), .ref (am 7), .ref (am 8), .ref (am 9), .ref (am 10), .ref (am 11), .ref (am 12), .ref (am 13), .ref (am 14), .ref (am 15), .ref (am 16), .ref (am 17), .ref (am 18), .ref (am 19)]))] sz)) 0 0 (va_A [(om, .inr (4, [.int th, .int sa, .ref (am 0), .ref (am 1), .double mi, .ref (am 2), .ref (am 3), .ref (am 4), .int (nI nf), .ref (am 5), .ref (am 6), .ref (am 7), .ref (am 8), .ref (am 9), .ref (am 10), .ref (am 11), .ref (am 12), .ref (am 13), .ref (am 14), .ref (am 15), .ref (am 16), .ref (am 17), .ref (am 18), .ref (am 19)]))] sz) := by
  refine Met.ofW (cc := cX4_path) (maxL := 5) (ret := (some .int)) (by decide +kernel) rfl ?_
  intro p e s m args below meth c s₁ B hml hv
  obtain ⟨rfl, hsz, hP, hK, hD0, hNF⟩ := hv
  have hx := B.exec
  have hb := B.bytes
  have hr := B.returns
  have hts := atoms_spec (ws := wsX4_path) B.pre
  have hown : s.vm.findClass RX4 = some m.cls := findClass_of_methodNamed B.named
  have hlocks := B.notSynchronized
  subst hsz
  have hD := hD0.self (sz := s.heap.size)
  generalize hAe : va_A [(om, .inr (4, [.int th, .int sa, .ref (am 0), .ref (am 1), .double mi, .ref (am 2), .ref (am 3), .ref (am 4), .int (nI nf), .ref (am 5), .ref (am 6), .ref (am 7), .ref (am 8), .ref (am 9), .ref (am 10), .ref (am 11), .ref (am 12), .ref (am 13), .ref (am 14), .ref (am 15), .ref (am 16), .ref (am 17), .ref (am 18), .ref (am 19)]))] s.heap.size = A at hD ⊢
  have hA : ∀ q : Nat, s.heap.size ≤ q → A q := fun q h => by rw [← hAe]; exact Or.inr h
  have hS : va_S A s.heap s.heap [] := va_S.rf
  have hP : va_P G vwCl [(om, .inr (4, [.int th, .int sa, .ref (am 0), .ref (am 1), .double mi, .ref (am 2), .ref (am 3), .ref (am 4), .int (nI nf), .ref (am 5), .ref (am 6), .ref (am 7), .ref (am 8), .ref (am 9), .ref (am 10), .ref (am 11), .ref (am 12), .ref (am 13), .ref (am 14), .ref (am 15), .ref (am 16), .ref (am 17), .ref (am 18), .ref (am 19)]))] s.heap := hP
  have hl := lv_entry ([.ref om, .int xp, .int xh]) (n := 5) (Nat.le_of_ble_eq_true rfl)
  rw [lg_entry_eq]
  generalize (lg_sl ([.ref om, .int xp, .int xh]) ++ List.replicate (5 - (lg_sl ([.ref om, .int xp, .int xh])).length) Slot.unset).toArray = ls at hl ⊢
  have hl : lv_has ls 5 [(0, .ref om), (1, .int xp), (2, .int xh)] := hl
  refine lv_iload_n hx hb dX4_path_0 rfl (lv_at hl 1 rfl) ?_
  refine lv_iconst (v := 0) hx hb dX4_path_1 (by decide) ?_
  refine lv_bipush (v := 7) hx hb dX4_path_2 (by decide) ?_
  have hPc := hP.sub (ws' := []) [] rfl
  have hDc := hD.sub (ws' := []) [] (by decide) rfl
  have hFc := va_free (wc := []) hD hS hA [] rfl
  refine va_calli (va_runS (As := [.int xp, .int 0, .int 7]) (rest := []) ⟨hx, hb, hml, hown, hts⟩ (m_X4_in l G q s.heap.size xp 0 7) (va_cwS 3 hts gX4_path_X4_in rfl rfl rfl (by decide +kernel) ⟨Nat.le_of_ble_eq_true rfl, Nat.le_of_ble_eq_true rfl⟩) ⟨preW_blind, preW_start hPc hK hDc hNF⟩ rfl rfl hl.1 rfl (lv_room (Nat.le_of_ble_eq_true rfl)) dX4_path_4 ⟨(Nat.zero_le _), (Nat.zero_le _)⟩) hS (fun q _ h => hFc q h) hFc (fun ri1 u9 t9 H1 locs ht9 hv9 hw hB9 hz9 hk9 hS => ?_)
  obtain ⟨⟩ := u9
  obtain ⟨hP1, hD1⟩ := hB9
  rw [ht9] at hP1
  obtain ⟨hP, hD⟩ := va_join (wr := [(om, .inr (4, [.int th, .int sa, .ref (am 0), .ref (am 1), .double mi, .ref (am 2), .ref (am 3), .ref (am 4), .int (nI nf), .ref (am 5), .ref (am 6), .ref (am 7), .ref (am 8), .ref (am 9), .ref (am 10), .ref (am 11), .ref (am 12), .ref (am 13), .ref (am 14), .ref (am 15), .ref (am 16), .ref (am 17), .ref (am 18), .ref (am 19)]))]) (w1 := []) hP hD [] [0] rfl rfl (by decide) (by decide) hk9 hFc hP1 hD1
  generalize H1 = H at hP hS ⊢
  have hP : va_P G vwCl [(om, .inr (4, [.int th, .int sa, .ref (am 0), .ref (am 1), .double mi, .ref (am 2), .ref (am 3), .ref (am 4), .int (nI nf), .ref (am 5), .ref (am 6), .ref (am 7), .ref (am 8), .ref (am 9), .ref (am 10), .ref (am 11), .ref (am 12), .ref (am 13), .ref (am 14), .ref (am 15), .ref (am 16), .ref (am 17), .ref (am 18), .ref (am 19)]))] H := hP
  have hD : va_D A [(om, .inr (4, [.int th, .int sa, .ref (am 0), .ref (am 1), .double mi, .ref (am 2), .ref (am 3), .ref (am 4), .int (nI nf), .ref (am 5), .ref (am 6), .ref (am 7), .ref (am 8), .ref (am 9), .ref (am 10), .ref (am 11), .ref (am 12), .ref (am 13), .ref (am 14), .ref (am 15), .ref (am 16), .ref (am 17), .ref (am 18), .ref (am 19)]))] := hD
  by_cases ci3 : 0 ≤ xp ∧ xp ≤ 7
  rotate_left
  · skip
    obtain rfl : ri1 = 0 := hw.trans (if_neg ci3)
    refine lv_istore_n (lv' := [(3, .int 0), (0, .ref om), (1, .int xp), (2, .int xh)]) hx hb dX4_path_7 rfl hl (by decide) rfl (fun ls hl => ?_)
    refine lv_aload_n hx hb dX4_path_8 rfl (lv_at hl 1 rfl) ?_
    refine lv_iload_n hx hb dX4_path_9 rfl (lv_at hl 0 rfl) ?_
    refine lv_if_ne (tgt := 17) hx hb dX4_path_10 (by decide) (fun h => absurd (by decide) h) (fun _ => ?_)
    refine lv_iconst (v := 1) hx hb dX4_path_13 (by decide) ?_
    refine lv_goto (tgt := 35) hx hb dX4_path_14 (by decide) ?_
    have hPc := hP.sub (ws' := [(om, .inr (4, [.int th, .int sa, .ref (am 0), .ref (am 1), .double mi, .ref (am 2), .ref (am 3), .ref (am 4), .int (nI nf), .ref (am 5), .ref (am 6), .ref (am 7), .ref (am 8), .ref (am 9), .ref (am 10), .ref (am 11), .ref (am 12), .ref (am 13), .ref (am 14), .ref (am 15), .ref (am 16), .ref (am 17), .ref (am 18), .ref (am 19)]))]) [0] rfl
    have hDc := hD.sub (ws' := [(om, .inr (4, [.int th, .int sa, .ref (am 0), .ref (am 1), .double mi, .ref (am 2), .ref (am 3), .ref (am 4), .int (nI nf), .ref (am 5), .ref (am 6), .ref (am 7), .ref (am 8), .ref (am 9), .ref (am 10), .ref (am 11), .ref (am 12), .ref (am 13), .ref (am 14), .ref (am 15), .ref (am 16), .ref (am 17), .ref (am 18), .ref (am 19)]))]) [0] (by decide) rfl
    have hFc := va_free (wc := [(om, .inr (4, [.int th, .int sa, .ref (am 0), .ref (am 1), .double mi, .ref (am 2), .ref (am 3), .ref (am 4), .int (nI nf), .ref (am 5), .ref (am 6), .ref (am 7), .ref (am 8), .ref (am 9), .ref (am 10), .ref (am 11), .ref (am 12), .ref (am 13), .ref (am 14), .ref (am 15), .ref (am 16), .ref (am 17), .ref (am 18), .ref (am 19)]))]) hD hS hA [0] rfl
    refine va_calli (va_runV (As := [.int 1]) (rest := []) ⟨hx, hb, hml, hown, hts⟩ (m_X4_goesWell l G q H.size om am th sa (nI nf) mi 1) (cwV 1 hts gX4_path_X4_goesWell rfl rfl rfl (by decide +kernel) ⟨Nat.le_of_ble_eq_true rfl, Nat.le_of_ble_eq_true rfl⟩) ⟨preW_blind, (va_recv hK hPc (ci := 4) (q0 := 0) rfl rfl), preW_start hPc hK hDc hNF⟩ rfl rfl hl.1 rfl (lv_room (Nat.le_of_ble_eq_true rfl)) dX4_path_35 ⟨(Nat.zero_le _), (Nat.zero_le _)⟩) hS (fun q _ h => hFc q h) hFc (fun gr5 u9 t9 H1 locs ht9 hv9 hw hB9 hz9 hk9 hS => ?_)
    obtain ⟨⟩ := u9
    obtain ⟨hP1, hD1⟩ := hB9
    rw [ht9] at hP1
    obtain ⟨hP, hD⟩ := va_join (wr := []) (w1 := [(om, .inr (4, [.int 1, .int sa, .ref (am 0), .ref (am 1), .double mi, .ref (am 2), .ref (am 3), .ref (am 4), .int (nI nf), .ref (am 5), .ref (am 6), .ref (am 7), .ref (am 8), .ref (am 9), .ref (am 10), .ref (am 11), .ref (am 12), .ref (am 13), .ref (am 14), .ref (am 15), .ref (am 16), .ref (am 17), .ref (am 18), .ref (am 19)]))]) hP hD [0] [] rfl rfl (by decide) (by decide) hk9 hFc hP1 hD1
    generalize H1 = H at hP hS ⊢
    have hP : va_P G vwCl [(om, .inr (4, [.int 1, .int sa, .ref (am 0), .ref (am 1), .double mi, .ref (am 2), .ref (am 3), .ref (am 4), .int (nI nf), .ref (am 5), .ref (am 6), .ref (am 7), .ref (am 8), .ref (am 9), .ref (am 10), .ref (am 11), .ref (am 12), .ref (am 13), .ref (am 14), .ref (am 15), .ref (am 16), .ref (am 17), .ref (am 18), .ref (am 19)]))] H := hP
    have hD : va_D A [(om, .inr (4, [.int 1, .int sa, .ref (am 0), .ref (am 1), .double mi, .ref (am 2), .ref (am 3), .ref (am 4), .int (nI nf), .ref (am 5), .ref (am 6), .ref (am 7), .ref (am 8), .ref (am 9), .ref (am 10), .ref (am 11), .ref (am 12), .ref (am 13), .ref (am 14), .ref (am 15), .ref (am 16), .ref (am 17), .ref (am 18), .ref (am 19)]))] := hD
    obtain rfl : gr5 = 0 := hw.trans (by decide)
    refine lv_if_ne (tgt := 43) hx hb dX4_path_38 (by decide) (fun h => absurd (by decide) h) (fun _ => ?_)
    refine lv_iconst (v := 0) hx hb dX4_path_41 (by decide) ?_
    have hP9 := hP
    have hD9 := hD
    exact W.iret (v := 0) hx hb hr (fun t ht hW => ⟨⟨0, 1, rfl, by dsimp only; unfold pathC; rw [if_neg ci3], by rw [ht]; exact hP9, hD9⟩, hS.F ht⟩) hS.2.2 dX4_path_42
  obtain rfl : ri1 = 1 := hw.trans (if_pos ci3)
  refine lv_istore_n (lv' := [(3, .int 1), (0, .ref om), (1, .int xp), (2, .int xh)]) hx hb dX4_path_7 rfl hl (by decide) rfl (fun ls hl => ?_)
  refine lv_aload_n hx hb dX4_path_8 rfl (lv_at hl 1 rfl) ?_
  refine lv_iload_n hx hb dX4_path_9 rfl (lv_at hl 0 rfl) ?_
  refine lv_if_ne (tgt := 17) hx hb dX4_path_10 (by decide) (fun _ => ?_) (fun h => absurd h (by decide))
  refine lv_iload_n hx hb dX4_path_17 rfl (lv_at hl 3 rfl) ?_
  refine lv_sipush (v := (-1000)) hx hb dX4_path_18 (by decide) ?_
  refine lv_sipush (v := 1000) hx hb dX4_path_21 (by decide) ?_
  have hPc := hP.sub (ws' := []) [] rfl
  have hDc := hD.sub (ws' := []) [] (by decide) rfl
  have hFc := va_free (wc := []) hD hS hA [] rfl
  refine va_calli (va_runS (As := [.int xh, .int (-1000), .int 1000]) (rest := [.ref om]) ⟨hx, hb, hml, hown, hts⟩ (m_X4_in l G q H.size xh (-1000) 1000) (va_cwS 3 hts gX4_path_X4_in rfl rfl rfl (by decide +kernel) ⟨Nat.le_of_ble_eq_true rfl, Nat.le_of_ble_eq_true rfl⟩) ⟨preW_blind, preW_start hPc hK hDc hNF⟩ rfl rfl hl.1 rfl (lv_room (Nat.le_of_ble_eq_true rfl)) dX4_path_24 ⟨(Nat.zero_le _), (Nat.zero_le _)⟩) hS (fun q _ h => hFc q h) hFc (fun ri9 u9 t9 H1 locs ht9 hv9 hw hB9 hz9 hk9 hS => ?_)
  obtain ⟨⟩ := u9
  obtain ⟨hP1, hD1⟩ := hB9
  rw [ht9] at hP1
  obtain ⟨hP, hD⟩ := va_join (wr := [(om, .inr (4, [.int th, .int sa, .ref (am 0), .ref (am 1), .double mi, .ref (am 2), .ref (am 3), .ref (am 4), .int (nI nf), .ref (am 5), .ref (am 6), .ref (am 7), .ref (am 8), .ref (am 9), .ref (am 10), .ref (am 11), .ref (am 12), .ref (am 13), .ref (am 14), .ref (am 15), .ref (am 16), .ref (am 17), .ref (am 18), .ref (am 19)]))]) (w1 := []) hP hD [] [0] rfl rfl (by decide) (by decide) hk9 hFc hP1 hD1
  generalize H1 = H at hP hS ⊢
  have hP : va_P G vwCl [(om, .inr (4, [.int th, .int sa, .ref (am 0), .ref (am 1), .double mi, .ref (am 2), .ref (am 3), .ref (am 4), .int (nI nf), .ref (am 5), .ref (am 6), .ref (am 7), .ref (am 8), .ref (am 9), .ref (am 10), .ref (am 11), .ref (am 12), .ref (am 13), .ref (am 14), .ref (am 15), .ref (am 16), .ref (am 17), .ref (am 18), .ref (am 19)]))] H := hP
  have hD : va_D A [(om, .inr (4, [.int th, .int sa, .ref (am 0), .ref (am 1), .double mi, .ref (am 2), .ref (am 3), .ref (am 4), .int (nI nf), .ref (am 5), .ref (am 6), .ref (am 7), .ref (am 8), .ref (am 9), .ref (am 10), .ref (am 11), .ref (am 12), .ref (am 13), .ref (am 14), .ref (am 15), .ref (am 16), .ref (am 17), .ref (am 18), .ref (am 19)]))] := hD
  by_cases ci11 : (-1000) ≤ xh ∧ xh ≤ 1000
  · skip
    exact absurd (by unfold pathC; rw [if_pos ci3, if_pos ci11]) hc
  obtain rfl : ri9 = 0 := hw.trans (if_neg ci11)
  refine lv_if_eq (tgt := 34) hx hb dX4_path_27 (by decide) (fun _ => ?_) (fun h => absurd (by decide) h)
  refine lv_iconst (v := 2) hx hb dX4_path_34 (by decide) ?_
  have hPc := hP.sub (ws' := [(om, .inr (4, [.int th, .int sa, .ref (am 0), .ref (am 1), .double mi, .ref (am 2), .ref (am 3), .ref (am 4), .int (nI nf), .ref (am 5), .ref (am 6), .ref (am 7), .ref (am 8), .ref (am 9), .ref (am 10), .ref (am 11), .ref (am 12), .ref (am 13), .ref (am 14), .ref (am 15), .ref (am 16), .ref (am 17), .ref (am 18), .ref (am 19)]))]) [0] rfl
  have hDc := hD.sub (ws' := [(om, .inr (4, [.int th, .int sa, .ref (am 0), .ref (am 1), .double mi, .ref (am 2), .ref (am 3), .ref (am 4), .int (nI nf), .ref (am 5), .ref (am 6), .ref (am 7), .ref (am 8), .ref (am 9), .ref (am 10), .ref (am 11), .ref (am 12), .ref (am 13), .ref (am 14), .ref (am 15), .ref (am 16), .ref (am 17), .ref (am 18), .ref (am 19)]))]) [0] (by decide) rfl
  have hFc := va_free (wc := [(om, .inr (4, [.int th, .int sa, .ref (am 0), .ref (am 1), .double mi, .ref (am 2), .ref (am 3), .ref (am 4), .int (nI nf), .ref (am 5), .ref (am 6), .ref (am 7), .ref (am 8), .ref (am 9), .ref (am 10), .ref (am 11), .ref (am 12), .ref (am 13), .ref (am 14), .ref (am 15), .ref (am 16), .ref (am 17), .ref (am 18), .ref (am 19)]))]) hD hS hA [0] rfl
  refine va_calli (va_runV (As := [.int 2]) (rest := []) ⟨hx, hb, hml, hown, hts⟩ (m_X4_goesWell l G q H.size om am th sa (nI nf) mi 2) (cwV 1 hts gX4_path_X4_goesWell rfl rfl rfl (by decide +kernel) ⟨Nat.le_of_ble_eq_true rfl, Nat.le_of_ble_eq_true rfl⟩) ⟨preW_blind, (va_recv hK hPc (ci := 4) (q0 := 0) rfl rfl), preW_start hPc hK hDc hNF⟩ rfl rfl hl.1 rfl (lv_room (Nat.le_of_ble_eq_true rfl)) dX4_path_35 ⟨(Nat.zero_le _), (Nat.zero_le _)⟩) hS (fun q _ h => hFc q h) hFc (fun gr13 u9 t9 H1 locs ht9 hv9 hw hB9 hz9 hk9 hS => ?_)
  obtain ⟨⟩ := u9
  obtain ⟨hP1, hD1⟩ := hB9
  rw [ht9] at hP1
  obtain ⟨hP, hD⟩ := va_join (wr := []) (w1 := [(om, .inr (4, [.int 2, .int sa, .ref (am 0), .ref (am 1), .double mi, .ref (am 2), .ref (am 3), .ref (am 4), .int (nI nf), .ref (am 5), .ref (am 6), .ref (am 7), .ref (am 8), .ref (am 9), .ref (am 10), .ref (am 11), .ref (am 12), .ref (am 13), .ref (am 14), .ref (am 15), .ref (am 16), .ref (am 17), .ref (am 18), .ref (am 19)]))]) hP hD [0] [] rfl rfl (by decide) (by decide) hk9 hFc hP1 hD1
  generalize H1 = H at hP hS ⊢
  have hP : va_P G vwCl [(om, .inr (4, [.int 2, .int sa, .ref (am 0), .ref (am 1), .double mi, .ref (am 2), .ref (am 3), .ref (am 4), .int (nI nf), .ref (am 5), .ref (am 6), .ref (am 7), .ref (am 8), .ref (am 9), .ref (am 10), .ref (am 11), .ref (am 12), .ref (am 13), .ref (am 14), .ref (am 15), .ref (am 16), .ref (am 17), .ref (am 18), .ref (am 19)]))] H := hP
  have hD : va_D A [(om, .inr (4, [.int 2, .int sa, .ref (am 0), .ref (am 1), .double mi, .ref (am 2), .ref (am 3), .ref (am 4), .int (nI nf), .ref (am 5), .ref (am 6), .ref (am 7), .ref (am 8), .ref (am 9), .ref (am 10), .ref (am 11), .ref (am 12), .ref (am 13), .ref (am 14), .ref (am 15), .ref (am 16), .ref (am 17), .ref (am 18), .ref (am 19)]))] := hD
  obtain rfl : gr13 = 0 := hw.trans (by decide)
  refine lv_if_ne (tgt := 43) hx hb dX4_path_38 (by decide) (fun h => absurd (by decide) h) (fun _ => ?_)
  refine lv_iconst (v := 0) hx hb dX4_path_41 (by decide) ?_
  have hP9 := hP
  have hD9 := hD
  exact W.iret (v := 0) hx hb hr (fun t ht hW => ⟨⟨0, 2, rfl, by dsimp only; unfold pathC; rw [if_pos ci3, if_neg ci11], by rw [ht]; exact hP9, hD9⟩, hS.F ht⟩) hS.2.2 dX4_path_42

theorem in_X4_path_X4 : ∀ w ∈ wsX40, w ∈ wsX4_path := by decide +kernel
set_option maxHeartbeats 4000000 in
set_option maxRecDepth 100000 in
/-- path: where it goes well -/
theorem m_X4_path (l : Launch) (G : va_G) (q : Nat → ClassId) (sz : Nat) (om : Nat) (am : Nat → Nat) (th sa : Int32) (mi : UInt64) (nf : Nat) (j : Nat) (xh : Int32) (pa : Nat → Int32) (hj : j < 8) (hh : -1000 ≤ xh ∧ xh ≤ 1000) : Met l yX4_path wsX4_path ({ frames := 1, cells := 0, slots := 0, locals := 22 } : Jvm.Room) (PreW G q [.ref om, .int (nI j), .int xh] [(om, .inr (4, [.int th, .int sa, .ref (am 0), .ref (am 1), .double mi, .ref (am 2), .ref (am 3), .ref (am 4), .int (nI nf), .ref (am 5), .ref (am 6), .ref (am 7), .ref (am 8), .ref (am 9), .ref (am 10), .ref (am 11), .ref (am 12), .ref (am 13), .ref (am 14), .ref (am 15), .ref (am 16), .ref (am 17), .ref (am 18), .ref (am 19)])), ((am 0), aI q 8 pa)] sz) (va_Qi (fun (r : Int32) (_ : Unit) => r = pa j) (fun (_ : Unit) t => EndA G (va_A [(om, .inr (4, [.int th, .int sa, .ref (am 0), .ref (am 1), .double mi, .ref (am 2), .ref (am 3), .ref (am 4), .int (nI nf), .ref (am 5), .ref (am 6), .ref (am 7), .ref (am 8), .ref (am 9), .ref (am 10), .ref (am 11), .ref (am 12), .ref (am 13), .ref (am 14), .ref (am 15), .ref (am 16), .ref (am 17), .ref (am 18), .ref (am 19)])), ((am 0), aI q 8 pa)] sz) [(om, .inr (4, [.int 0, .int sa, .ref (am 0), .ref (am 1), .double mi, .ref (am 2), .ref (am 3), .ref (am 4), .int (nI nf), .ref (am 5), .ref (am 6), .ref (am 7), .ref (am 8), .ref (am 9), .ref (am 10), .ref (am 11), .ref (am 12), .ref (am 13), .ref (am 14), .ref (am 15), .ref (am 16), .ref (am 17), .ref (am 18), .ref (am 19)])), ((am 0), aI q 8 (vf_upd pa j xh))] t) (va_A [(om, .inr (4, [.int th, .int sa, .ref (am 0), .ref (am 1), .double mi, .ref (am 2), .ref (am 3), .ref (am 4), .int (nI nf), .ref (am 5), .ref (am 6), .ref (am 7), .ref (am 8), .ref (am 9), .ref (am 10), .ref (am 11), .ref (am 12), .ref (am 13), .ref (am 14), .ref (am 15), .ref (am 16), .ref (am 17), .ref (am 18), .ref (am 19)])), ((am 0), aI q 8 pa)] sz)) 0 0 (va_A [(om, .inr (4, [.int th, .int sa, .ref (am 0), .ref (am 1), .double mi, .ref (am 2), .ref (am 3), .ref (am 4), .int (nI nf), .ref (am 5), .ref (am 6), .ref (am 7), .ref (am 8), .ref (am 9), .ref (am 10), .ref (am 11), .ref (am 12), .ref (am 13), .ref (am 14), .ref (am 15), .ref (am 16), .ref (am 17), .ref (am 18), .ref (am 19)])), ((am 0), aI q 8 pa)] sz) := by
  refine Met.ofW (cc := cX4_path) (maxL := 5) (ret := (some .int)) (by decide +kernel) rfl ?_
  intro p e s m args below meth c s₁ B hml hv
  obtain ⟨rfl, hsz, hP, hK, hD0, hNF⟩ := hv
  have hx := B.exec
  have hb := B.bytes
  have hr := B.returns
  have hts := atoms_spec (ws := wsX4_path) B.pre
  have hown : s.vm.findClass RX4 = some m.cls := findClass_of_methodNamed B.named
  have hlocks := B.notSynchronized
  subst hsz
  have hD := hD0.self (sz := s.heap.size)
  generalize hAe : va_A [(om, .inr (4, [.int th, .int sa, .ref (am 0), .ref (am 1), .double mi, .ref (am 2), .ref (am 3), .ref (am 4), .int (nI nf), .ref (am 5), .ref (am 6), .ref (am 7), .ref (am 8), .ref (am 9), .ref (am 10), .ref (am 11), .ref (am 12), .ref (am 13), .ref (am 14), .ref (am 15), .ref (am 16), .ref (am 17), .ref (am 18), .ref (am 19)])), ((am 0), aI q 8 pa)] s.heap.size = A at hD ⊢
  have hA : ∀ q : Nat, s.heap.size ≤ q → A q := fun q h => by rw [← hAe]; exact Or.inr h
  have hS : va_S A s.heap s.heap [] := va_S.rf
  have hP : va_P G vwCl [(om, .inr (4, [.int th, .int sa, .ref (am 0), .ref (am 1), .double mi, .ref (am 2), .ref (am 3), .ref (am 4), .int (nI nf), .ref (am 5), .ref (am 6), .ref (am 7), .ref (am 8), .ref (am 9), .ref (am 10), .ref (am 11), .ref (am 12), .ref (am 13), .ref (am 14), .ref (am 15), .ref (am 16), .ref (am 17), .ref (am 18), .ref (am 19)])), ((am 0), aI q 8 pa)] s.heap := hP
  have hl := lv_entry ([.ref om, .int (nI j), .int xh]) (n := 5) (Nat.le_of_ble_eq_true rfl)
  rw [lg_entry_eq]
  generalize (lg_sl ([.ref om, .int (nI j), .int xh]) ++ List.replicate (5 - (lg_sl ([.ref om, .int (nI j), .int xh])).length) Slot.unset).toArray = ls at hl ⊢
  have hl : lv_has ls 5 [(0, .ref om), (1, .int (nI j)), (2, .int xh)] := hl
  refine lv_iload_n hx hb dX4_path_0 rfl (lv_at hl 1 rfl) ?_
  refine lv_iconst (v := 0) hx hb dX4_path_1 (by decide) ?_
  refine lv_bipush (v := 7) hx hb dX4_path_2 (by decide) ?_
  have hPc := hP.sub (ws' := []) [] rfl
  have hDc := hD.sub (ws' := []) [] (by decide) rfl
  have hFc := va_free (wc := []) hD hS hA [] rfl
  refine va_calli (va_runS (As := [.int (nI j), .int 0, .int 7]) (rest := []) ⟨hx, hb, hml, hown, hts⟩ (m_X4_in l G q s.heap.size (nI j) 0 7) (va_cwS 3 hts gX4_path_X4_in rfl rfl rfl (by decide +kernel) ⟨Nat.le_of_ble_eq_true rfl, Nat.le_of_ble_eq_true rfl⟩) ⟨preW_blind, preW_start hPc hK hDc hNF⟩ rfl rfl hl.1 rfl (lv_room (Nat.le_of_ble_eq_true rfl)) dX4_path_4 ⟨(Nat.zero_le _), (Nat.zero_le _)⟩) hS (fun q _ h => hFc q h) hFc (fun ri1 u9 t9 H1 locs ht9 hv9 hw hB9 hz9 hk9 hS => ?_)
  obtain ⟨⟩ := u9
  obtain ⟨hP1, hD1⟩ := hB9
  rw [ht9] at hP1
  obtain ⟨hP, hD⟩ := va_join (wr := [(om, .inr (4, [.int th, .int sa, .ref (am 0), .ref (am 1), .double mi, .ref (am 2), .ref (am 3), .ref (am 4), .int (nI nf), .ref (am 5), .ref (am 6), .ref (am 7), .ref (am 8), .ref (am 9), .ref (am 10), .ref (am 11), .ref (am 12), .ref (am 13), .ref (am 14), .ref (am 15), .ref (am 16), .ref (am 17), .ref (am 18), .ref (am 19)])), ((am 0), aI q 8 pa)]) (w1 := []) hP hD [] [0, 1] rfl rfl (by decide) (by decide) hk9 hFc hP1 hD1
  generalize H1 = H at hP hS ⊢
  have hP : va_P G vwCl [(om, .inr (4, [.int th, .int sa, .ref (am 0), .ref (am 1), .double mi, .ref (am 2), .ref (am 3), .ref (am 4), .int (nI nf), .ref (am 5), .ref (am 6), .ref (am 7), .ref (am 8), .ref (am 9), .ref (am 10), .ref (am 11), .ref (am 12), .ref (am 13), .ref (am 14), .ref (am 15), .ref (am 16), .ref (am 17), .ref (am 18), .ref (am 19)])), ((am 0), aI q 8 pa)] H := hP
  have hD : va_D A [(om, .inr (4, [.int th, .int sa, .ref (am 0), .ref (am 1), .double mi, .ref (am 2), .ref (am 3), .ref (am 4), .int (nI nf), .ref (am 5), .ref (am 6), .ref (am 7), .ref (am 8), .ref (am 9), .ref (am 10), .ref (am 11), .ref (am 12), .ref (am 13), .ref (am 14), .ref (am 15), .ref (am 16), .ref (am 17), .ref (am 18), .ref (am 19)])), ((am 0), aI q 8 pa)] := hD
  obtain rfl : ri1 = 1 := hw.trans (if_pos (in_b (b := 7) (by decide) (by omega)))
  refine lv_istore_n (lv' := [(3, .int 1), (0, .ref om), (1, .int (nI j)), (2, .int xh)]) hx hb dX4_path_7 rfl hl (by decide) rfl (fun ls hl => ?_)
  refine lv_aload_n hx hb dX4_path_8 rfl (lv_at hl 1 rfl) ?_
  refine lv_iload_n hx hb dX4_path_9 rfl (lv_at hl 0 rfl) ?_
  refine lv_if_ne (tgt := 17) hx hb dX4_path_10 (by decide) (fun _ => ?_) (fun h => absurd h (by decide))
  refine lv_iload_n hx hb dX4_path_17 rfl (lv_at hl 3 rfl) ?_
  refine lv_sipush (v := (-1000)) hx hb dX4_path_18 (by decide) ?_
  refine lv_sipush (v := 1000) hx hb dX4_path_21 (by decide) ?_
  have hPc := hP.sub (ws' := []) [] rfl
  have hDc := hD.sub (ws' := []) [] (by decide) rfl
  have hFc := va_free (wc := []) hD hS hA [] rfl
  refine va_calli (va_runS (As := [.int xh, .int (-1000), .int 1000]) (rest := [.ref om]) ⟨hx, hb, hml, hown, hts⟩ (m_X4_in l G q H.size xh (-1000) 1000) (va_cwS 3 hts gX4_path_X4_in rfl rfl rfl (by decide +kernel) ⟨Nat.le_of_ble_eq_true rfl, Nat.le_of_ble_eq_true rfl⟩) ⟨preW_blind, preW_start hPc hK hDc hNF⟩ rfl rfl hl.1 rfl (lv_room (Nat.le_of_ble_eq_true rfl)) dX4_path_24 ⟨(Nat.zero_le _), (Nat.zero_le _)⟩) hS (fun q _ h => hFc q h) hFc (fun ri4 u9 t9 H1 locs ht9 hv9 hw hB9 hz9 hk9 hS => ?_)
  obtain ⟨⟩ := u9
  obtain ⟨hP1, hD1⟩ := hB9
  rw [ht9] at hP1
  obtain ⟨hP, hD⟩ := va_join (wr := [(om, .inr (4, [.int th, .int sa, .ref (am 0), .ref (am 1), .double mi, .ref (am 2), .ref (am 3), .ref (am 4), .int (nI nf), .ref (am 5), .ref (am 6), .ref (am 7), .ref (am 8), .ref (am 9), .ref (am 10), .ref (am 11), .ref (am 12), .ref (am 13), .ref (am 14), .ref (am 15), .ref (am 16), .ref (am 17), .ref (am 18), .ref (am 19)])), ((am 0), aI q 8 pa)]) (w1 := []) hP hD [] [0, 1] rfl rfl (by decide) (by decide) hk9 hFc hP1 hD1
  generalize H1 = H at hP hS ⊢
  have hP : va_P G vwCl [(om, .inr (4, [.int th, .int sa, .ref (am 0), .ref (am 1), .double mi, .ref (am 2), .ref (am 3), .ref (am 4), .int (nI nf), .ref (am 5), .ref (am 6), .ref (am 7), .ref (am 8), .ref (am 9), .ref (am 10), .ref (am 11), .ref (am 12), .ref (am 13), .ref (am 14), .ref (am 15), .ref (am 16), .ref (am 17), .ref (am 18), .ref (am 19)])), ((am 0), aI q 8 pa)] H := hP
  have hD : va_D A [(om, .inr (4, [.int th, .int sa, .ref (am 0), .ref (am 1), .double mi, .ref (am 2), .ref (am 3), .ref (am 4), .int (nI nf), .ref (am 5), .ref (am 6), .ref (am 7), .ref (am 8), .ref (am 9), .ref (am 10), .ref (am 11), .ref (am 12), .ref (am 13), .ref (am 14), .ref (am 15), .ref (am 16), .ref (am 17), .ref (am 18), .ref (am 19)])), ((am 0), aI q 8 pa)] := hD
  obtain rfl : ri4 = 1 := hw.trans (if_pos hh)
  refine lv_if_eq (tgt := 34) hx hb dX4_path_27 (by decide) (fun h => absurd h (by decide)) (fun _ => ?_)
  refine lv_iconst (v := 0) hx hb dX4_path_30 (by decide) ?_
  refine lv_goto (tgt := 35) hx hb dX4_path_31 (by decide) ?_
  have hPc := hP.sub (ws' := [(om, .inr (4, [.int th, .int sa, .ref (am 0), .ref (am 1), .double mi, .ref (am 2), .ref (am 3), .ref (am 4), .int (nI nf), .ref (am 5), .ref (am 6), .ref (am 7), .ref (am 8), .ref (am 9), .ref (am 10), .ref (am 11), .ref (am 12), .ref (am 13), .ref (am 14), .ref (am 15), .ref (am 16), .ref (am 17), .ref (am 18), .ref (am 19)]))]) [0] rfl
  have hDc := hD.sub (ws' := [(om, .inr (4, [.int th, .int sa, .ref (am 0), .ref (am 1), .double mi, .ref (am 2), .ref (am 3), .ref (am 4), .int (nI nf), .ref (am 5), .ref (am 6), .ref (am 7), .ref (am 8), .ref (am 9), .ref (am 10), .ref (am 11), .ref (am 12), .ref (am 13), .ref (am 14), .ref (am 15), .ref (am 16), .ref (am 17), .ref (am 18), .ref (am 19)]))]) [0] (by decide) rfl
  have hFc := va_free (wc := [(om, .inr (4, [.int th, .int sa, .ref (am 0), .ref (am 1), .double mi, .ref (am 2), .ref (am 3), .ref (am 4), .int (nI nf), .ref (am 5), .ref (am 6), .ref (am 7), .ref (am 8), .ref (am 9), .ref (am 10), .ref (am 11), .ref (am 12), .ref (am 13), .ref (am 14), .ref (am 15), .ref (am 16), .ref (am 17), .ref (am 18), .ref (am 19)]))]) hD hS hA [0] rfl
  refine va_calli (va_runV (As := [.int 0]) (rest := []) ⟨hx, hb, hml, hown, hts⟩ (m_X4_goesWell l G q H.size om am th sa (nI nf) mi 0) (cwV 1 hts gX4_path_X4_goesWell rfl rfl rfl (by decide +kernel) ⟨Nat.le_of_ble_eq_true rfl, Nat.le_of_ble_eq_true rfl⟩) ⟨preW_blind, (va_recv hK hPc (ci := 4) (q0 := 0) rfl rfl), preW_start hPc hK hDc hNF⟩ rfl rfl hl.1 rfl (lv_room (Nat.le_of_ble_eq_true rfl)) dX4_path_35 ⟨(Nat.zero_le _), (Nat.zero_le _)⟩) hS (fun q _ h => hFc q h) hFc (fun gr7 u9 t9 H1 locs ht9 hv9 hw hB9 hz9 hk9 hS => ?_)
  obtain ⟨⟩ := u9
  obtain ⟨hP1, hD1⟩ := hB9
  rw [ht9] at hP1
  obtain ⟨hP, hD⟩ := va_join (wr := [((am 0), aI q 8 pa)]) (w1 := [(om, .inr (4, [.int 0, .int sa, .ref (am 0), .ref (am 1), .double mi, .ref (am 2), .ref (am 3), .ref (am 4), .int (nI nf), .ref (am 5), .ref (am 6), .ref (am 7), .ref (am 8), .ref (am 9), .ref (am 10), .ref (am 11), .ref (am 12), .ref (am 13), .ref (am 14), .ref (am 15), .ref (am 16), .ref (am 17), .ref (am 18), .ref (am 19)]))]) hP hD [0] [1] rfl rfl (by decide) (by decide) hk9 hFc hP1 hD1
  generalize H1 = H at hP hS ⊢
  have hP : va_P G vwCl [((am 0), aI q 8 pa), (om, .inr (4, [.int 0, .int sa, .ref (am 0), .ref (am 1), .double mi, .ref (am 2), .ref (am 3), .ref (am 4), .int (nI nf), .ref (am 5), .ref (am 6), .ref (am 7), .ref (am 8), .ref (am 9), .ref (am 10), .ref (am 11), .ref (am 12), .ref (am 13), .ref (am 14), .ref (am 15), .ref (am 16), .ref (am 17), .ref (am 18), .ref (am 19)]))] H := hP
  have hD : va_D A [((am 0), aI q 8 pa), (om, .inr (4, [.int 0, .int sa, .ref (am 0), .ref (am 1), .double mi, .ref (am 2), .ref (am 3), .ref (am 4), .int (nI nf), .ref (am 5), .ref (am 6), .ref (am 7), .ref (am 8), .ref (am 9), .ref (am 10), .ref (am 11), .ref (am 12), .ref (am 13), .ref (am 14), .ref (am 15), .ref (am 16), .ref (am 17), .ref (am 18), .ref (am 19)]))] := hD
  obtain rfl : gr7 = 1 := hw.trans (by decide)
  refine lv_if_ne (tgt := 43) hx hb dX4_path_38 (by decide) (fun _ => ?_) (fun h => absurd h (by decide))
  refine lv_aload_n hx hb dX4_path_43 rfl (lv_at hl 1 rfl) ?_
  refine va_get (D := G) (ci := 4) (v := .ref (am 0)) (C := RX4) (T := TX4) (N := 24) hx hb hts in_X4_path_X4 hown hK hP 1 rfl rfl 2 (by decide) (hts (.fieldLink RX4 7 "EchoBenchModel" "path" "[I") (by decide +kernel)) (fun _ h9 => h9) rfl dX4_path_44 ?_
  refine lv_iload_n hx hb dX4_path_47 rfl (lv_at hl 2 rfl) ?_
  refine va_ialdJ hx hb hK hP 0 0 rfl rfl (j := j) rfl (by omega) (by decide) dX4_path_48 ?_
  refine lv_istore (lv' := [(4, .int (pa j)), (3, .int 1), (0, .ref om), (1, .int (nI j)), (2, .int xh)]) hx hb dX4_path_49 hl (by decide) rfl (fun ls hl => ?_)
  refine lv_aload_n hx hb dX4_path_51 rfl (lv_at hl 2 rfl) ?_
  refine va_get (D := G) (ci := 4) (v := .ref (am 0)) (C := RX4) (T := TX4) (N := 24) hx hb hts in_X4_path_X4 hown hK hP 1 rfl rfl 2 (by decide) (hts (.fieldLink RX4 7 "EchoBenchModel" "path" "[I") (by decide +kernel)) (fun _ h9 => h9) rfl dX4_path_52 ?_
  refine lv_iload_n hx hb dX4_path_55 rfl (lv_at hl 3 rfl) ?_
  refine lv_iload_n hx hb dX4_path_56 rfl (lv_at hl 4 rfl) ?_
  refine va_iastJ hx hb hK hP hD hS 0 0 rfl rfl (j := j) rfl (by omega) (by decide) dX4_path_57 (fun H locs hP hD hS => ?_)
  have hP : va_P G vwCl [((am 0), aI q 8 (vf_upd pa j xh)), (om, .inr (4, [.int 0, .int sa, .ref (am 0), .ref (am 1), .double mi, .ref (am 2), .ref (am 3), .ref (am 4), .int (nI nf), .ref (am 5), .ref (am 6), .ref (am 7), .ref (am 8), .ref (am 9), .ref (am 10), .ref (am 11), .ref (am 12), .ref (am 13), .ref (am 14), .ref (am 15), .ref (am 16), .ref (am 17), .ref (am 18), .ref (am 19)]))] H := hP
  have hD : va_D A [((am 0), aI q 8 (vf_upd pa j xh)), (om, .inr (4, [.int 0, .int sa, .ref (am 0), .ref (am 1), .double mi, .ref (am 2), .ref (am 3), .ref (am 4), .int (nI nf), .ref (am 5), .ref (am 6), .ref (am 7), .ref (am 8), .ref (am 9), .ref (am 10), .ref (am 11), .ref (am 12), .ref (am 13), .ref (am 14), .ref (am 15), .ref (am 16), .ref (am 17), .ref (am 18), .ref (am 19)]))] := hD
  refine lv_iload hx hb dX4_path_58 (lv_at hl 0 rfl) ?_
  have hP := hP.sub (ws' := [(om, .inr (4, [.int 0, .int sa, .ref (am 0), .ref (am 1), .double mi, .ref (am 2), .ref (am 3), .ref (am 4), .int (nI nf), .ref (am 5), .ref (am 6), .ref (am 7), .ref (am 8), .ref (am 9), .ref (am 10), .ref (am 11), .ref (am 12), .ref (am 13), .ref (am 14), .ref (am 15), .ref (am 16), .ref (am 17), .ref (am 18), .ref (am 19)])), ((am 0), aI q 8 (vf_upd pa j xh))]) [1, 0] rfl
  have hD := hD.sub (ws' := [(om, .inr (4, [.int 0, .int sa, .ref (am 0), .ref (am 1), .double mi, .ref (am 2), .ref (am 3), .ref (am 4), .int (nI nf), .ref (am 5), .ref (am 6), .ref (am 7), .ref (am 8), .ref (am 9), .ref (am 10), .ref (am 11), .ref (am 12), .ref (am 13), .ref (am 14), .ref (am 15), .ref (am 16), .ref (am 17), .ref (am 18), .ref (am 19)])), ((am 0), aI q 8 (vf_upd pa j xh))]) [1, 0] (by decide) rfl
  have hP9 := hP
  have hD9 := hD
  exact W.iret (v := pa j) hx hb hr (fun t ht hW => ⟨⟨pa j, (), rfl, rfl, by rw [ht]; exact hP9, hD9⟩, hS.F ht⟩) hS.2.2 dX4_path_60

set_option maxHeartbeats 4000000 in
set_option maxRecDepth 100000 in
/-- begin: where it throws -/
theorem m_X4_begin_no (l : Launch) (G : va_G) (q : Nat → ClassId) (sz : Nat) (om : Nat) (am : Nat → Nat) (th sa : Int32) (mi : UInt64) (nf : Nat) (f : Int32) (hnf : nf ≤ 6) (hc : ¬ beginC f (nI nf) = 0) : Met l yX4_begin wsX4_begin ({ frames := 2, cells := 0, slots := 0, locals := 43 } : Jvm.Room) (PreW G q [.ref om, .int f] [(om, .inr (4, [.int th, .int sa, .ref (am 0), .ref (am 1), .double mi, .ref (am 2), .ref (am 3), .ref (am 4), .int (nI nf), .ref (am 5), .ref (am 6), .ref (am 7), .ref (am 8), .ref (am 9), .ref (am 10), .ref (am 11), .ref (am 12), .ref (am 13), .ref (am 14), .ref (am 15), .ref (am 16), .ref (am 17), .ref (am 18), .ref (am 19)]))] sz) (va_Qv (fun (u : Int32) => u = beginC f (nI nf)) (fun (u : Int32) t => EndA G (va_A [(om, .inr (4, [.int th, .int sa, .ref (am 0), .ref (am 1), .double mi, .ref (am 2), .ref (am 3), .ref (am 4), .int (nI nf), .ref (am 5), .ref (am 6), .ref (am 7), .ref (am 8), .ref (am 9), .ref (am 10), .ref (am 11), .ref (am 12), .ref (am 13), .ref (am 14), .ref (am 15), .ref (am 16), .ref (am 17), .ref (am 18), .ref (am 19)]))] sz) [(om, .inr (4, [.int u, .int sa, .ref (am 0), .ref (am 1), .double mi, .ref (am 2), .ref (am 3), .ref (am 4), .int (nI nf), .ref (am 5), .ref (am 6), .ref (am 7), .ref (am 8), .ref (am 9), .ref (am 10), .ref (am 11), .ref (am 12), .ref (am 13), .ref (am 14), .ref (am 15), .ref (am 16), .ref (am 17), .ref (am 18), .ref (am 19)]))] t) (va_A [(om, .inr (4, [.int th, .int sa, .ref (am 0), .ref (am 1), .double mi, .ref (am 2), .ref (am 3), .ref (am 4), .int (nI nf), .ref (am 5), .ref (am 6), .ref (am 7), .ref (am 8), .ref (am 9), .ref (am 10), .ref (am 11), .ref (am 12), .ref (am 13), .ref (am 14), .ref (am 15), .ref (am 16), .ref (am 17), .ref (am 18), .ref (am 19)]))] sz)) 0 0 (va_A [(om, .inr (4, [.int th, .int sa, .ref (am 0), .ref (am 1), .double mi, .ref (am 2), .ref (am 3), .ref (am 4), .int (nI nf), .ref (am 5), .ref (am 6), .ref (am 7), .ref (am 8), .ref (am 9), .ref (am 10), .ref (am 11), .ref (am 12), .ref (am 13), .ref (am 14), .ref (am 15), .ref (am 16), .ref (am 17), .ref (am 18), .ref (am 19)]))] sz) := by
  refine Met.ofW (cc := cX4_begin) (maxL := 3) (ret := none) (by decide +kernel) rfl ?_
  intro p e s m args below meth c s₁ B hml hv
  obtain ⟨rfl, hsz, hP, hK, hD0, hNF⟩ := hv
  have hx := B.exec
  have hb := B.bytes
  have hr := B.returns
  have hts := atoms_spec (ws := wsX4_begin) B.pre
  have hown : s.vm.findClass RX4 = some m.cls := findClass_of_methodNamed B.named
  have hlocks := B.notSynchronized
  subst hsz
  have hD := hD0.self (sz := s.heap.size)
  generalize hAe : va_A [(om, .inr (4, [.int th, .int sa, .ref (am 0), .ref (am 1), .double mi, .ref (am 2), .ref (am 3), .ref (am 4), .int (nI nf), .ref (am 5), .ref (am 6), .ref (am 7), .ref (am 8), .ref (am 9), .ref (am 10), .ref (am 11), .ref (am 12), .ref (am 13), .ref (am 14), .ref (am 15), .ref (am 16), .ref (am 17), .ref (am 18), .ref (am 19)]))] s.heap.size = A at hD ⊢
  have hA : ∀ q : Nat, s.heap.size ≤ q → A q := fun q h => by rw [← hAe]; exact Or.inr h
  have hS : va_S A s.heap s.heap [] := va_S.rf
  have hP : va_P G vwCl [(om, .inr (4, [.int th, .int sa, .ref (am 0), .ref (am 1), .double mi, .ref (am 2), .ref (am 3), .ref (am 4), .int (nI nf), .ref (am 5), .ref (am 6), .ref (am 7), .ref (am 8), .ref (am 9), .ref (am 10), .ref (am 11), .ref (am 12), .ref (am 13), .ref (am 14), .ref (am 15), .ref (am 16), .ref (am 17), .ref (am 18), .ref (am 19)]))] s.heap := hP
  have hl := lv_entry ([.ref om, .int f]) (n := 3) (Nat.le_of_ble_eq_true rfl)
  rw [lg_entry_eq]
  generalize (lg_sl ([.ref om, .int f]) ++ List.replicate (3 - (lg_sl ([.ref om, .int f])).length) Slot.unset).toArray = ls at hl ⊢
  have hl : lv_has ls 3 [(0, .ref om), (1, .int f)] := hl
  refine lv_aload_n hx hb dX4_begin_0 rfl (lv_at hl 0 rfl) ?_
  refine lv_aload_n hx hb dX4_begin_1 rfl (lv_at hl 0 rfl) ?_
  refine lv_iload_n hx hb dX4_begin_2 rfl (lv_at hl 1 rfl) ?_
  have hPc := hP.sub (ws' := [(om, .inr (4, [.int th, .int sa, .ref (am 0), .ref (am 1), .double mi, .ref (am 2), .ref (am 3), .ref (am 4), .int (nI nf), .ref (am 5), .ref (am 6), .ref (am 7), .ref (am 8), .ref (am 9), .ref (am 10), .ref (am 11), .ref (am 12), .ref (am 13), .ref (am 14), .ref (am 15), .ref (am 16), .ref (am 17), .ref (am 18), .ref (am 19)]))]) [0] rfl
  have hDc := hD.sub (ws' := [(om, .inr (4, [.int th, .int sa, .ref (am 0), .ref (am 1), .double mi, .ref (am 2), .ref (am 3), .ref (am 4), .int (nI nf), .ref (am 5), .ref (am 6), .ref (am 7), .ref (am 8), .ref (am 9), .ref (am 10), .ref (am 11), .ref (am 12), .ref (am 13), .ref (am 14), .ref (am 15), .ref (am 16), .ref (am 17), .ref (am 18), .ref (am 19)]))]) [0] (by decide) rfl
  have hFc := va_free (wc := [(om, .inr (4, [.int th, .int sa, .ref (am 0), .ref (am 1), .double mi, .ref (am 2), .ref (am 3), .ref (am 4), .int (nI nf), .ref (am 5), .ref (am 6), .ref (am 7), .ref (am 8), .ref (am 9), .ref (am 10), .ref (am 11), .ref (am 12), .ref (am 13), .ref (am 14), .ref (am 15), .ref (am 16), .ref (am 17), .ref (am 18), .ref (am 19)]))]) hD hS hA [0] rfl
  refine va_calli (va_runV (As := [.int f]) (rest := [.ref om]) ⟨hx, hb, hml, hown, hts⟩ (m_X4_isFilter l G q s.heap.size om am th sa (nI nf) mi f) (cwV 1 hts gX4_begin_X4_isFilter rfl rfl rfl (by decide +kernel) ⟨Nat.le_of_ble_eq_true rfl, Nat.le_of_ble_eq_true rfl⟩) ⟨preW_blind, (va_recv hK hPc (ci := 4) (q0 := 0) rfl rfl), preW_start hPc hK hDc hNF⟩ rfl rfl hl.1 rfl (lv_room (Nat.le_of_ble_eq_true rfl)) dX4_begin_3 ⟨(Nat.zero_le _), (Nat.zero_le _)⟩) hS (fun q _ h => hFc q h) hFc (fun rf1 u9 t9 H1 locs ht9 hv9 hw hB9 hz9 hk9 hS => ?_)
  obtain ⟨⟩ := u9
  obtain ⟨hP1, hD1⟩ := hB9
  rw [ht9] at hP1
  obtain ⟨hP, hD⟩ := va_join (wr := []) (w1 := [(om, .inr (4, [.int th, .int sa, .ref (am 0), .ref (am 1), .double mi, .ref (am 2), .ref (am 3), .ref (am 4), .int (nI nf), .ref (am 5), .ref (am 6), .ref (am 7), .ref (am 8), .ref (am 9), .ref (am 10), .ref (am 11), .ref (am 12), .ref (am 13), .ref (am 14), .ref (am 15), .ref (am 16), .ref (am 17), .ref (am 18), .ref (am 19)]))]) hP hD [0] [] rfl rfl (by decide) (by decide) hk9 hFc hP1 hD1
  generalize H1 = H at hP hS ⊢
  have hP : va_P G vwCl [(om, .inr (4, [.int th, .int sa, .ref (am 0), .ref (am 1), .double mi, .ref (am 2), .ref (am 3), .ref (am 4), .int (nI nf), .ref (am 5), .ref (am 6), .ref (am 7), .ref (am 8), .ref (am 9), .ref (am 10), .ref (am 11), .ref (am 12), .ref (am 13), .ref (am 14), .ref (am 15), .ref (am 16), .ref (am 17), .ref (am 18), .ref (am 19)]))] H := hP
  have hD : va_D A [(om, .inr (4, [.int th, .int sa, .ref (am 0), .ref (am 1), .double mi, .ref (am 2), .ref (am 3), .ref (am 4), .int (nI nf), .ref (am 5), .ref (am 6), .ref (am 7), .ref (am 8), .ref (am 9), .ref (am 10), .ref (am 11), .ref (am 12), .ref (am 13), .ref (am 14), .ref (am 15), .ref (am 16), .ref (am 17), .ref (am 18), .ref (am 19)]))] := hD
  by_cases ci3 : isF f (nI nf)
  · skip
    exact absurd (by unfold beginC; rw [if_pos ci3]) hc
  obtain rfl : rf1 = 0 := hw.trans (if_neg ci3)
  refine lv_if_eq (tgt := 13) hx hb dX4_begin_6 (by decide) (fun _ => ?_) (fun h => absurd (by decide) h)
  refine lv_iconst (v := 1) hx hb dX4_begin_13 (by decide) ?_
  have hPc := hP.sub (ws' := [(om, .inr (4, [.int th, .int sa, .ref (am 0), .ref (am 1), .double mi, .ref (am 2), .ref (am 3), .ref (am 4), .int (nI nf), .ref (am 5), .ref (am 6), .ref (am 7), .ref (am 8), .ref (am 9), .ref (am 10), .ref (am 11), .ref (am 12), .ref (am 13), .ref (am 14), .ref (am 15), .ref (am 16), .ref (am 17), .ref (am 18), .ref (am 19)]))]) [0] rfl
  have hDc := hD.sub (ws' := [(om, .inr (4, [.int th, .int sa, .ref (am 0), .ref (am 1), .double mi, .ref (am 2), .ref (am 3), .ref (am 4), .int (nI nf), .ref (am 5), .ref (am 6), .ref (am 7), .ref (am 8), .ref (am 9), .ref (am 10), .ref (am 11), .ref (am 12), .ref (am 13), .ref (am 14), .ref (am 15), .ref (am 16), .ref (am 17), .ref (am 18), .ref (am 19)]))]) [0] (by decide) rfl
  have hFc := va_free (wc := [(om, .inr (4, [.int th, .int sa, .ref (am 0), .ref (am 1), .double mi, .ref (am 2), .ref (am 3), .ref (am 4), .int (nI nf), .ref (am 5), .ref (am 6), .ref (am 7), .ref (am 8), .ref (am 9), .ref (am 10), .ref (am 11), .ref (am 12), .ref (am 13), .ref (am 14), .ref (am 15), .ref (am 16), .ref (am 17), .ref (am 18), .ref (am 19)]))]) hD hS hA [0] rfl
  refine va_calli (va_runV (As := [.int 1]) (rest := []) ⟨hx, hb, hml, hown, hts⟩ (m_X4_goesWell l G q H.size om am th sa (nI nf) mi 1) (cwV 1 hts gX4_begin_X4_goesWell rfl rfl rfl (by decide +kernel) ⟨Nat.le_of_ble_eq_true rfl, Nat.le_of_ble_eq_true rfl⟩) ⟨preW_blind, (va_recv hK hPc (ci := 4) (q0 := 0) rfl rfl), preW_start hPc hK hDc hNF⟩ rfl rfl hl.1 rfl (lv_room (Nat.le_of_ble_eq_true rfl)) dX4_begin_14 ⟨(Nat.zero_le _), (Nat.zero_le _)⟩) hS (fun q _ h => hFc q h) hFc (fun gr5 u9 t9 H1 locs ht9 hv9 hw hB9 hz9 hk9 hS => ?_)
  obtain ⟨⟩ := u9
  obtain ⟨hP1, hD1⟩ := hB9
  rw [ht9] at hP1
  obtain ⟨hP, hD⟩ := va_join (wr := []) (w1 := [(om, .inr (4, [.int 1, .int sa, .ref (am 0), .ref (am 1), .double mi, .ref (am 2), .ref (am 3), .ref (am 4), .int (nI nf), .ref (am 5), .ref (am 6), .ref (am 7), .ref (am 8), .ref (am 9), .ref (am 10), .ref (am 11), .ref (am 12), .ref (am 13), .ref (am 14), .ref (am 15), .ref (am 16), .ref (am 17), .ref (am 18), .ref (am 19)]))]) hP hD [0] [] rfl rfl (by decide) (by decide) hk9 hFc hP1 hD1
  generalize H1 = H at hP hS ⊢
  have hP : va_P G vwCl [(om, .inr (4, [.int 1, .int sa, .ref (am 0), .ref (am 1), .double mi, .ref (am 2), .ref (am 3), .ref (am 4), .int (nI nf), .ref (am 5), .ref (am 6), .ref (am 7), .ref (am 8), .ref (am 9), .ref (am 10), .ref (am 11), .ref (am 12), .ref (am 13), .ref (am 14), .ref (am 15), .ref (am 16), .ref (am 17), .ref (am 18), .ref (am 19)]))] H := hP
  have hD : va_D A [(om, .inr (4, [.int 1, .int sa, .ref (am 0), .ref (am 1), .double mi, .ref (am 2), .ref (am 3), .ref (am 4), .int (nI nf), .ref (am 5), .ref (am 6), .ref (am 7), .ref (am 8), .ref (am 9), .ref (am 10), .ref (am 11), .ref (am 12), .ref (am 13), .ref (am 14), .ref (am 15), .ref (am 16), .ref (am 17), .ref (am 18), .ref (am 19)]))] := hD
  obtain rfl : gr5 = 0 := hw.trans (by decide)
  refine lv_if_ne (tgt := 21) hx hb dX4_begin_17 (by decide) (fun h => absurd (by decide) h) (fun _ => ?_)
  have hP9 := hP
  have hD9 := hD
  exact W.vret hx hb hr (fun t ht hW => ⟨⟨1, rfl, by dsimp only; unfold beginC; rw [if_neg ci3], by rw [ht]; exact hP9, hD9⟩, hS.F ht⟩) hS.2.2 dX4_begin_20

theorem in_X4_step_X4 : ∀ w ∈ wsX40, w ∈ wsX4_step := by decide +kernel
set_option maxHeartbeats 4000000 in
set_option maxRecDepth 100000 in
/-- step: where it throws -/
theorem m_X4_step_no (l : Launch) (G : va_G) (q : Nat → ClassId) (sz : Nat) (om : Nat) (am : Nat → Nat) (th sa : Int32) (mi : UInt64) (nf : Nat) (f xt : Int32) (Ki : Nat → Int32) (hnf : nf ≤ 6) (hc : ¬ stepC f xt (nI nf) (Ki (tn f)) = 0) : Met l yX4_step wsX4_step ({ frames := 2, cells := 0, slots := 0, locals := 43 } : Jvm.Room) (PreW G q [.ref om, .int f, .int xt] [(om, .inr (4, [.int th, .int sa, .ref (am 0), .ref (am 1), .double mi, .ref (am 2), .ref (am 3), .ref (am 4), .int (nI nf), .ref (am 5), .ref (am 6), .ref (am 7), .ref (am 8), .ref (am 9), .ref (am 10), .ref (am 11), .ref (am 12), .ref (am 13), .ref (am 14), .ref (am 15), .ref (am 16), .ref (am 17), .ref (am 18), .ref (am 19)])), ((am 5), aI q 6 Ki)] sz) (va_Qi (fun (_ : Int32) (u : Int32) => u = stepC f xt (nI nf) (Ki (tn f))) (fun (u : Int32) t => EndA G (va_A [(om, .inr (4, [.int th, .int sa, .ref (am 0), .ref (am 1), .double mi, .ref (am 2), .ref (am 3), .ref (am 4), .int (nI nf), .ref (am 5), .ref (am 6), .ref (am 7), .ref (am 8), .ref (am 9), .ref (am 10), .ref (am 11), .ref (am 12), .ref (am 13), .ref (am 14), .ref (am 15), .ref (am 16), .ref (am 17), .ref (am 18), .ref (am 19)])), ((am 5), aI q 6 Ki)] sz) [(om, .inr (4, [.int u, .int sa, .ref (am 0), .ref (am 1), .double mi, .ref (am 2), .ref (am 3), .ref (am 4), .int (nI nf), .ref (am 5), .ref (am 6), .ref (am 7), .ref (am 8), .ref (am 9), .ref (am 10), .ref (am 11), .ref (am 12), .ref (am 13), .ref (am 14), .ref (am 15), .ref (am 16), .ref (am 17), .ref (am 18), .ref (am 19)])), ((am 5), aI q 6 Ki)] t) (va_A [(om, .inr (4, [.int th, .int sa, .ref (am 0), .ref (am 1), .double mi, .ref (am 2), .ref (am 3), .ref (am 4), .int (nI nf), .ref (am 5), .ref (am 6), .ref (am 7), .ref (am 8), .ref (am 9), .ref (am 10), .ref (am 11), .ref (am 12), .ref (am 13), .ref (am 14), .ref (am 15), .ref (am 16), .ref (am 17), .ref (am 18), .ref (am 19)])), ((am 5), aI q 6 Ki)] sz)) 0 0 (va_A [(om, .inr (4, [.int th, .int sa, .ref (am 0), .ref (am 1), .double mi, .ref (am 2), .ref (am 3), .ref (am 4), .int (nI nf), .ref (am 5), .ref (am 6), .ref (am 7), .ref (am 8), .ref (am 9), .ref (am 10), .ref (am 11), .ref (am 12), .ref (am 13), .ref (am 14), .ref (am 15), .ref (am 16), .ref (am 17), .ref (am 18), .ref (am 19)])), ((am 5), aI q 6 Ki)] sz) := by
  refine Met.ofW (cc := cX4_step) (maxL := 5) (ret := (some .int)) (by decide +kernel) rfl ?_
  intro p e s m args below meth c s₁ B hml hv
  obtain ⟨rfl, hsz, hP, hK, hD0, hNF⟩ := hv
  have hx := B.exec
  have hb := B.bytes
  have hr := B.returns
  have hts := atoms_spec (ws := wsX4_step) B.pre
  have hown : s.vm.findClass RX4 = some m.cls := findClass_of_methodNamed B.named
  have hlocks := B.notSynchronized
  subst hsz
  have hD := hD0.self (sz := s.heap.size)
  generalize hAe : va_A [(om, .inr (4, [.int th, .int sa, .ref (am 0), .ref (am 1), .double mi, .ref (am 2), .ref (am 3), .ref (am 4), .int (nI nf), .ref (am 5), .ref (am 6), .ref (am 7), .ref (am 8), .ref (am 9), .ref (am 10), .ref (am 11), .ref (am 12), .ref (am 13), .ref (am 14), .ref (am 15), .ref (am 16), .ref (am 17), .ref (am 18), .ref (am 19)])), ((am 5), aI q 6 Ki)] s.heap.size = A at hD ⊢
  have hA : ∀ q : Nat, s.heap.size ≤ q → A q := fun q h => by rw [← hAe]; exact Or.inr h
  have hS : va_S A s.heap s.heap [] := va_S.rf
  have hP : va_P G vwCl [(om, .inr (4, [.int th, .int sa, .ref (am 0), .ref (am 1), .double mi, .ref (am 2), .ref (am 3), .ref (am 4), .int (nI nf), .ref (am 5), .ref (am 6), .ref (am 7), .ref (am 8), .ref (am 9), .ref (am 10), .ref (am 11), .ref (am 12), .ref (am 13), .ref (am 14), .ref (am 15), .ref (am 16), .ref (am 17), .ref (am 18), .ref (am 19)])), ((am 5), aI q 6 Ki)] s.heap := hP
  have hl := lv_entry ([.ref om, .int f, .int xt]) (n := 5) (Nat.le_of_ble_eq_true rfl)
  rw [lg_entry_eq]
  generalize (lg_sl ([.ref om, .int f, .int xt]) ++ List.replicate (5 - (lg_sl ([.ref om, .int f, .int xt])).length) Slot.unset).toArray = ls at hl ⊢
  have hl : lv_has ls 5 [(0, .ref om), (1, .int f), (2, .int xt)] := hl
  refine lv_aload_n hx hb dX4_step_0 rfl (lv_at hl 0 rfl) ?_
  refine lv_iload_n hx hb dX4_step_1 rfl (lv_at hl 1 rfl) ?_
  have hPc := hP.sub (ws' := [(om, .inr (4, [.int th, .int sa, .ref (am 0), .ref (am 1), .double mi, .ref (am 2), .ref (am 3), .ref (am 4), .int (nI nf), .ref (am 5), .ref (am 6), .ref (am 7), .ref (am 8), .ref (am 9), .ref (am 10), .ref (am 11), .ref (am 12), .ref (am 13), .ref (am 14), .ref (am 15), .ref (am 16), .ref (am 17), .ref (am 18), .ref (am 19)]))]) [0] rfl
  have hDc := hD.sub (ws' := [(om, .inr (4, [.int th, .int sa, .ref (am 0), .ref (am 1), .double mi, .ref (am 2), .ref (am 3), .ref (am 4), .int (nI nf), .ref (am 5), .ref (am 6), .ref (am 7), .ref (am 8), .ref (am 9), .ref (am 10), .ref (am 11), .ref (am 12), .ref (am 13), .ref (am 14), .ref (am 15), .ref (am 16), .ref (am 17), .ref (am 18), .ref (am 19)]))]) [0] (by decide) rfl
  have hFc := va_free (wc := [(om, .inr (4, [.int th, .int sa, .ref (am 0), .ref (am 1), .double mi, .ref (am 2), .ref (am 3), .ref (am 4), .int (nI nf), .ref (am 5), .ref (am 6), .ref (am 7), .ref (am 8), .ref (am 9), .ref (am 10), .ref (am 11), .ref (am 12), .ref (am 13), .ref (am 14), .ref (am 15), .ref (am 16), .ref (am 17), .ref (am 18), .ref (am 19)]))]) hD hS hA [0] rfl
  refine va_calli (va_runV (As := [.int f]) (rest := []) ⟨hx, hb, hml, hown, hts⟩ (m_X4_isFilter l G q s.heap.size om am th sa (nI nf) mi f) (cwV 1 hts gX4_step_X4_isFilter rfl rfl rfl (by decide +kernel) ⟨Nat.le_of_ble_eq_true rfl, Nat.le_of_ble_eq_true rfl⟩) ⟨preW_blind, (va_recv hK hPc (ci := 4) (q0 := 0) rfl rfl), preW_start hPc hK hDc hNF⟩ rfl rfl hl.1 rfl (lv_room (Nat.le_of_ble_eq_true rfl)) dX4_step_2 ⟨(Nat.zero_le _), (Nat.zero_le _)⟩) hS (fun q _ h => hFc q h) hFc (fun rf1 u9 t9 H1 locs ht9 hv9 hw hB9 hz9 hk9 hS => ?_)
  obtain ⟨⟩ := u9
  obtain ⟨hP1, hD1⟩ := hB9
  rw [ht9] at hP1
  obtain ⟨hP, hD⟩ := va_join (wr := [((am 5), aI q 6 Ki)]) (w1 := [(om, .inr (4, [.int th, .int sa, .ref (am 0), .ref (am 1), .double mi, .ref (am 2), .ref (am 3), .ref (am 4), .int (nI nf), .ref (am 5), .ref (am 6), .ref (am 7), .ref (am 8), .ref (am 9), .ref (am 10), .ref (am 11), .ref (am 12), .ref (am 13), .ref (am 14), .ref (am 15), .ref (am 16), .ref (am 17), .ref (am 18), .ref (am 19)]))]) hP hD [0] [1] rfl rfl (by decide) (by decide) hk9 hFc hP1 hD1
  generalize H1 = H at hP hS ⊢
  have hP : va_P G vwCl [((am 5), aI q 6 Ki), (om, .inr (4, [.int th, .int sa, .ref (am 0), .ref (am 1), .double mi, .ref (am 2), .ref (am 3), .ref (am 4), .int (nI nf), .ref (am 5), .ref (am 6), .ref (am 7), .ref (am 8), .ref (am 9), .ref (am 10), .ref (am 11), .ref (am 12), .ref (am 13), .ref (am 14), .ref (am 15), .ref (am 16), .ref (am 17), .ref (am 18), .ref (am 19)]))] H := hP
  have hD : va_D A [((am 5), aI q 6 Ki), (om, .inr (4, [.int th, .int sa, .ref (am 0), .ref (am 1), .double mi, .ref (am 2), .ref (am 3), .ref (am 4), .int (nI nf), .ref (am 5), .ref (am 6), .ref (am 7), .ref (am 8), .ref (am 9), .ref (am 10), .ref (am 11), .ref (am 12), .ref (am 13), .ref (am 14), .ref (am 15), .ref (am 16), .ref (am 17), .ref (am 18), .ref (am 19)]))] := hD
  by_cases ci3 : isF f (nI nf)
  rotate_left
  · skip
    obtain rfl : rf1 = 0 := hw.trans (if_neg ci3)
    refine lv_istore_n (lv' := [(3, .int 0), (0, .ref om), (1, .int f), (2, .int xt)]) hx hb dX4_step_5 rfl hl (by decide) rfl (fun ls hl => ?_)
    refine lv_aload_n hx hb dX4_step_6 rfl (lv_at hl 1 rfl) ?_
    refine lv_iload_n hx hb dX4_step_7 rfl (lv_at hl 0 rfl) ?_
    refine lv_if_ne (tgt := 15) hx hb dX4_step_8 (by decide) (fun h => absurd (by decide) h) (fun _ => ?_)
    refine lv_iconst (v := 1) hx hb dX4_step_11 (by decide) ?_
    refine lv_goto (tgt := 33) hx hb dX4_step_12 (by decide) ?_
    have hPc := hP.sub (ws' := [(om, .inr (4, [.int th, .int sa, .ref (am 0), .ref (am 1), .double mi, .ref (am 2), .ref (am 3), .ref (am 4), .int (nI nf), .ref (am 5), .ref (am 6), .ref (am 7), .ref (am 8), .ref (am 9), .ref (am 10), .ref (am 11), .ref (am 12), .ref (am 13), .ref (am 14), .ref (am 15), .ref (am 16), .ref (am 17), .ref (am 18), .ref (am 19)]))]) [1] rfl
    have hDc := hD.sub (ws' := [(om, .inr (4, [.int th, .int sa, .ref (am 0), .ref (am 1), .double mi, .ref (am 2), .ref (am 3), .ref (am 4), .int (nI nf), .ref (am 5), .ref (am 6), .ref (am 7), .ref (am 8), .ref (am 9), .ref (am 10), .ref (am 11), .ref (am 12), .ref (am 13), .ref (am 14), .ref (am 15), .ref (am 16), .ref (am 17), .ref (am 18), .ref (am 19)]))]) [1] (by decide) rfl
    have hFc := va_free (wc := [(om, .inr (4, [.int th, .int sa, .ref (am 0), .ref (am 1), .double mi, .ref (am 2), .ref (am 3), .ref (am 4), .int (nI nf), .ref (am 5), .ref (am 6), .ref (am 7), .ref (am 8), .ref (am 9), .ref (am 10), .ref (am 11), .ref (am 12), .ref (am 13), .ref (am 14), .ref (am 15), .ref (am 16), .ref (am 17), .ref (am 18), .ref (am 19)]))]) hD hS hA [1] rfl
    refine va_calli (va_runV (As := [.int 1]) (rest := []) ⟨hx, hb, hml, hown, hts⟩ (m_X4_goesWell l G q H.size om am th sa (nI nf) mi 1) (cwV 1 hts gX4_step_X4_goesWell rfl rfl rfl (by decide +kernel) ⟨Nat.le_of_ble_eq_true rfl, Nat.le_of_ble_eq_true rfl⟩) ⟨preW_blind, (va_recv hK hPc (ci := 4) (q0 := 0) rfl rfl), preW_start hPc hK hDc hNF⟩ rfl rfl hl.1 rfl (lv_room (Nat.le_of_ble_eq_true rfl)) dX4_step_33 ⟨(Nat.zero_le _), (Nat.zero_le _)⟩) hS (fun q _ h => hFc q h) hFc (fun gr5 u9 t9 H1 locs ht9 hv9 hw hB9 hz9 hk9 hS => ?_)
    obtain ⟨⟩ := u9
    obtain ⟨hP1, hD1⟩ := hB9
    rw [ht9] at hP1
    obtain ⟨hP, hD⟩ := va_join (wr := [((am 5), aI q 6 Ki)]) (w1 := [(om, .inr (4, [.int 1, .int sa, .ref (am 0), .ref (am 1), .double mi, .ref (am 2), .ref (am 3), .ref (am 4), .int (nI nf), .ref (am 5), .ref (am 6), .ref (am 7), .ref (am 8), .ref (am 9), .ref (am 10), .ref (am 11), .ref (am 12), .ref (am 13), .ref (am 14), .ref (am 15), .ref (am 16), .ref (am 17), .ref (am 18), .ref (am 19)]))]) hP hD [1] [0] rfl rfl (by decide) (by decide) hk9 hFc hP1 hD1
    generalize H1 = H at hP hS ⊢
    have hP : va_P G vwCl [((am 5), aI q 6 Ki), (om, .inr (4, [.int 1, .int sa, .ref (am 0), .ref (am 1), .double mi, .ref (am 2), .ref (am 3), .ref (am 4), .int (nI nf), .ref (am 5), .ref (am 6), .ref (am 7), .ref (am 8), .ref (am 9), .ref (am 10), .ref (am 11), .ref (am 12), .ref (am 13), .ref (am 14), .ref (am 15), .ref (am 16), .ref (am 17), .ref (am 18), .ref (am 19)]))] H := hP
    have hD : va_D A [((am 5), aI q 6 Ki), (om, .inr (4, [.int 1, .int sa, .ref (am 0), .ref (am 1), .double mi, .ref (am 2), .ref (am 3), .ref (am 4), .int (nI nf), .ref (am 5), .ref (am 6), .ref (am 7), .ref (am 8), .ref (am 9), .ref (am 10), .ref (am 11), .ref (am 12), .ref (am 13), .ref (am 14), .ref (am 15), .ref (am 16), .ref (am 17), .ref (am 18), .ref (am 19)]))] := hD
    obtain rfl : gr5 = 0 := hw.trans (by decide)
    refine lv_if_ne (tgt := 41) hx hb dX4_step_36 (by decide) (fun h => absurd (by decide) h) (fun _ => ?_)
    refine lv_iconst (v := 0) hx hb dX4_step_39 (by decide) ?_
    have hP := hP.sub (ws' := [(om, .inr (4, [.int 1, .int sa, .ref (am 0), .ref (am 1), .double mi, .ref (am 2), .ref (am 3), .ref (am 4), .int (nI nf), .ref (am 5), .ref (am 6), .ref (am 7), .ref (am 8), .ref (am 9), .ref (am 10), .ref (am 11), .ref (am 12), .ref (am 13), .ref (am 14), .ref (am 15), .ref (am 16), .ref (am 17), .ref (am 18), .ref (am 19)])), ((am 5), aI q 6 Ki)]) [1, 0] rfl
    have hD := hD.sub (ws' := [(om, .inr (4, [.int 1, .int sa, .ref (am 0), .ref (am 1), .double mi, .ref (am 2), .ref (am 3), .ref (am 4), .int (nI nf), .ref (am 5), .ref (am 6), .ref (am 7), .ref (am 8), .ref (am 9), .ref (am 10), .ref (am 11), .ref (am 12), .ref (am 13), .ref (am 14), .ref (am 15), .ref (am 16), .ref (am 17), .ref (am 18), .ref (am 19)])), ((am 5), aI q 6 Ki)]) [1, 0] (by decide) rfl
    have hP9 := hP
    have hD9 := hD
    exact W.iret (v := 0) hx hb hr (fun t ht hW => ⟨⟨0, 1, rfl, by dsimp only; unfold stepC; rw [if_neg ci3], by rw [ht]; exact hP9, hD9⟩, hS.F ht⟩) hS.2.2 dX4_step_40
  obtain rfl : rf1 = 1 := hw.trans (if_pos ci3)
  refine lv_istore_n (lv' := [(3, .int 1), (0, .ref om), (1, .int f), (2, .int xt)]) hx hb dX4_step_5 rfl hl (by decide) rfl (fun ls hl => ?_)
  refine lv_aload_n hx hb dX4_step_6 rfl (lv_at hl 1 rfl) ?_
  refine lv_iload_n hx hb dX4_step_7 rfl (lv_at hl 0 rfl) ?_
  refine lv_if_ne (tgt := 15) hx hb dX4_step_8 (by decide) (fun _ => ?_) (fun h => absurd h (by decide))
  refine lv_aload_n hx hb dX4_step_15 rfl (lv_at hl 1 rfl) ?_
  refine va_get (D := G) (ci := 4) (v := .ref (am 5)) (C := RX4) (T := TX4) (N := 24) hx hb hts in_X4_step_X4 hown hK hP 1 rfl rfl 9 (by decide) (hts (.fieldLink RX4 26 "EchoBenchModel" "kind" "[I") (by decide +kernel)) (fun _ h9 => h9) rfl dX4_step_16 ?_
  refine lv_iload_n hx hb dX4_step_19 rfl (lv_at hl 2 rfl) ?_
  have hf := in_m1 (by omega) ci3
  refine va_ialdJ hx hb hK hP 0 0 rfl rfl (j := (tn f)) hf.1 (by omega) (by decide) dX4_step_20 ?_
  refine lv_iload_n hx hb dX4_step_21 rfl (lv_at hl 3 rfl) ?_
  have hPc := hP.sub (ws' := []) [] rfl
  have hDc := hD.sub (ws' := []) [] (by decide) rfl
  have hFc := va_free (wc := []) hD hS hA [] rfl
  refine va_calli (va_runS (As := [.int (Ki (tn f)), .int xt]) (rest := [.ref om]) ⟨hx, hb, hml, hown, hts⟩ (m_X4_isStep l G q H.size (Ki (tn f)) xt) (va_cwS 2 hts gX4_step_X4_isStep rfl rfl rfl (by decide +kernel) ⟨Nat.le_of_ble_eq_true rfl, Nat.le_of_ble_eq_true rfl⟩) ⟨preW_blind, preW_start hPc hK hDc hNF⟩ rfl rfl hl.1 rfl (lv_room (Nat.le_of_ble_eq_true rfl)) dX4_step_22 ⟨(Nat.zero_le _), (Nat.zero_le _)⟩) hS (fun q _ h => hFc q h) hFc (fun rs9 u9 t9 H1 locs ht9 hv9 hw hB9 hz9 hk9 hS => ?_)
  obtain ⟨⟩ := u9
  obtain ⟨hP1, hD1⟩ := hB9
  rw [ht9] at hP1
  obtain ⟨hP, hD⟩ := va_join (wr := [((am 5), aI q 6 Ki), (om, .inr (4, [.int th, .int sa, .ref (am 0), .ref (am 1), .double mi, .ref (am 2), .ref (am 3), .ref (am 4), .int (nI nf), .ref (am 5), .ref (am 6), .ref (am 7), .ref (am 8), .ref (am 9), .ref (am 10), .ref (am 11), .ref (am 12), .ref (am 13), .ref (am 14), .ref (am 15), .ref (am 16), .ref (am 17), .ref (am 18), .ref (am 19)]))]) (w1 := []) hP hD [] [0, 1] rfl rfl (by decide) (by decide) hk9 hFc hP1 hD1
  generalize H1 = H at hP hS ⊢
  have hP : va_P G vwCl [((am 5), aI q 6 Ki), (om, .inr (4, [.int th, .int sa, .ref (am 0), .ref (am 1), .double mi, .ref (am 2), .ref (am 3), .ref (am 4), .int (nI nf), .ref (am 5), .ref (am 6), .ref (am 7), .ref (am 8), .ref (am 9), .ref (am 10), .ref (am 11), .ref (am 12), .ref (am 13), .ref (am 14), .ref (am 15), .ref (am 16), .ref (am 17), .ref (am 18), .ref (am 19)]))] H := hP
  have hD : va_D A [((am 5), aI q 6 Ki), (om, .inr (4, [.int th, .int sa, .ref (am 0), .ref (am 1), .double mi, .ref (am 2), .ref (am 3), .ref (am 4), .int (nI nf), .ref (am 5), .ref (am 6), .ref (am 7), .ref (am 8), .ref (am 9), .ref (am 10), .ref (am 11), .ref (am 12), .ref (am 13), .ref (am 14), .ref (am 15), .ref (am 16), .ref (am 17), .ref (am 18), .ref (am 19)]))] := hD
  by_cases ci11 : stpB (Ki (tn f)) xt
  · skip
    exact absurd (by unfold stepC; rw [if_pos ci3, if_pos ci11]) hc
  obtain rfl : rs9 = 0 := hw.trans (stp_0 ci11)
  refine lv_if_eq (tgt := 32) hx hb dX4_step_25 (by decide) (fun _ => ?_) (fun h => absurd (by decide) h)
  refine lv_iconst (v := 2) hx hb dX4_step_32 (by decide) ?_
  have hPc := hP.sub (ws' := [(om, .inr (4, [.int th, .int sa, .ref (am 0), .ref (am 1), .double mi, .ref (am 2), .ref (am 3), .ref (am 4), .int (nI nf), .ref (am 5), .ref (am 6), .ref (am 7), .ref (am 8), .ref (am 9), .ref (am 10), .ref (am 11), .ref (am 12), .ref (am 13), .ref (am 14), .ref (am 15), .ref (am 16), .ref (am 17), .ref (am 18), .ref (am 19)]))]) [1] rfl
  have hDc := hD.sub (ws' := [(om, .inr (4, [.int th, .int sa, .ref (am 0), .ref (am 1), .double mi, .ref (am 2), .ref (am 3), .ref (am 4), .int (nI nf), .ref (am 5), .ref (am 6), .ref (am 7), .ref (am 8), .ref (am 9), .ref (am 10), .ref (am 11), .ref (am 12), .ref (am 13), .ref (am 14), .ref (am 15), .ref (am 16), .ref (am 17), .ref (am 18), .ref (am 19)]))]) [1] (by decide) rfl
  have hFc := va_free (wc := [(om, .inr (4, [.int th, .int sa, .ref (am 0), .ref (am 1), .double mi, .ref (am 2), .ref (am 3), .ref (am 4), .int (nI nf), .ref (am 5), .ref (am 6), .ref (am 7), .ref (am 8), .ref (am 9), .ref (am 10), .ref (am 11), .ref (am 12), .ref (am 13), .ref (am 14), .ref (am 15), .ref (am 16), .ref (am 17), .ref (am 18), .ref (am 19)]))]) hD hS hA [1] rfl
  refine va_calli (va_runV (As := [.int 2]) (rest := []) ⟨hx, hb, hml, hown, hts⟩ (m_X4_goesWell l G q H.size om am th sa (nI nf) mi 2) (cwV 1 hts gX4_step_X4_goesWell rfl rfl rfl (by decide +kernel) ⟨Nat.le_of_ble_eq_true rfl, Nat.le_of_ble_eq_true rfl⟩) ⟨preW_blind, (va_recv hK hPc (ci := 4) (q0 := 0) rfl rfl), preW_start hPc hK hDc hNF⟩ rfl rfl hl.1 rfl (lv_room (Nat.le_of_ble_eq_true rfl)) dX4_step_33 ⟨(Nat.zero_le _), (Nat.zero_le _)⟩) hS (fun q _ h => hFc q h) hFc (fun gr13 u9 t9 H1 locs ht9 hv9 hw hB9 hz9 hk9 hS => ?_)
  obtain ⟨⟩ := u9
  obtain ⟨hP1, hD1⟩ := hB9
  rw [ht9] at hP1
  obtain ⟨hP, hD⟩ := va_join (wr := [((am 5), aI q 6 Ki)]) (w1 := [(om, .inr (4, [.int 2, .int sa, .ref (am 0), .ref (am 1), .double mi, .ref (am 2), .ref (am 3), .ref (am 4), .int (nI nf), .ref (am 5), .ref (am 6), .ref (am 7), .ref (am 8), .ref (am 9), .ref (am 10), .ref (am 11), .ref (am 12), .ref (am 13), .ref (am 14), .ref (am 15), .ref (am 16), .ref (am 17), .ref (am 18), .ref (am 19)]))]) hP hD [1] [0] rfl rfl (by decide) (by decide) hk9 hFc hP1 hD1
  generalize H1 = H at hP hS ⊢
  have hP : va_P G vwCl [((am 5), aI q 6 Ki), (om, .inr (4, [.int 2, .int sa, .ref (am 0), .ref (am 1), .double mi, .ref (am 2), .ref (am 3), .ref (am 4), .int (nI nf), .ref (am 5), .ref (am 6), .ref (am 7), .ref (am 8), .ref (am 9), .ref (am 10), .ref (am 11), .ref (am 12), .ref (am 13), .ref (am 14), .ref (am 15), .ref (am 16), .ref (am 17), .ref (am 18), .ref (am 19)]))] H := hP
  have hD : va_D A [((am 5), aI q 6 Ki), (om, .inr (4, [.int 2, .int sa, .ref (am 0), .ref (am 1), .double mi, .ref (am 2), .ref (am 3), .ref (am 4), .int (nI nf), .ref (am 5), .ref (am 6), .ref (am 7), .ref (am 8), .ref (am 9), .ref (am 10), .ref (am 11), .ref (am 12), .ref (am 13), .ref (am 14), .ref (am 15), .ref (am 16), .ref (am 17), .ref (am 18), .ref (am 19)]))] := hD
  obtain rfl : gr13 = 0 := hw.trans (by decide)
  refine lv_if_ne (tgt := 41) hx hb dX4_step_36 (by decide) (fun h => absurd (by decide) h) (fun _ => ?_)
  refine lv_iconst (v := 0) hx hb dX4_step_39 (by decide) ?_
  have hP := hP.sub (ws' := [(om, .inr (4, [.int 2, .int sa, .ref (am 0), .ref (am 1), .double mi, .ref (am 2), .ref (am 3), .ref (am 4), .int (nI nf), .ref (am 5), .ref (am 6), .ref (am 7), .ref (am 8), .ref (am 9), .ref (am 10), .ref (am 11), .ref (am 12), .ref (am 13), .ref (am 14), .ref (am 15), .ref (am 16), .ref (am 17), .ref (am 18), .ref (am 19)])), ((am 5), aI q 6 Ki)]) [1, 0] rfl
  have hD := hD.sub (ws' := [(om, .inr (4, [.int 2, .int sa, .ref (am 0), .ref (am 1), .double mi, .ref (am 2), .ref (am 3), .ref (am 4), .int (nI nf), .ref (am 5), .ref (am 6), .ref (am 7), .ref (am 8), .ref (am 9), .ref (am 10), .ref (am 11), .ref (am 12), .ref (am 13), .ref (am 14), .ref (am 15), .ref (am 16), .ref (am 17), .ref (am 18), .ref (am 19)])), ((am 5), aI q 6 Ki)]) [1, 0] (by decide) rfl
  have hP9 := hP
  have hD9 := hD
  exact W.iret (v := 0) hx hb hr (fun t ht hW => ⟨⟨0, 2, rfl, by dsimp only; unfold stepC; rw [if_pos ci3, if_neg ci11], by rw [ht]; exact hP9, hD9⟩, hS.F ht⟩) hS.2.2 dX4_step_40

set_option maxHeartbeats 4000000 in
set_option maxRecDepth 100000 in
/-- step: where it goes well -/
theorem m_X4_step (l : Launch) (G : va_G) (q : Nat → ClassId) (sz : Nat) (om : Nat) (am : Nat → Nat) (th sa : Int32) (mi : UInt64) (nf : Nat) (fx : Nat) (xt : Int32) (Ki Si : Nat → Int32) (hnf : nf ≤ 6) (hfx : fx < nf) (hs : stpB (Ki fx) xt) : Met l yX4_step wsX4_step ({ frames := 2, cells := 0, slots := 0, locals := 43 } : Jvm.Room) (PreW G q [.ref om, .int (nI fx), .int xt] [(om, .inr (4, [.int th, .int sa, .ref (am 0), .ref (am 1), .double mi, .ref (am 2), .ref (am 3), .ref (am 4), .int (nI nf), .ref (am 5), .ref (am 6), .ref (am 7), .ref (am 8), .ref (am 9), .ref (am 10), .ref (am 11), .ref (am 12), .ref (am 13), .ref (am 14), .ref (am 15), .ref (am 16), .ref (am 17), .ref (am 18), .ref (am 19)])), ((am 5), aI q 6 Ki), ((am 7), aI q 6 Si)] sz) (va_Qi (fun (r : Int32) (_ : Unit) => r = Si fx) (fun (_ : Unit) t => EndA G (va_A [(om, .inr (4, [.int th, .int sa, .ref (am 0), .ref (am 1), .double mi, .ref (am 2), .ref (am 3), .ref (am 4), .int (nI nf), .ref (am 5), .ref (am 6), .ref (am 7), .ref (am 8), .ref (am 9), .ref (am 10), .ref (am 11), .ref (am 12), .ref (am 13), .ref (am 14), .ref (am 15), .ref (am 16), .ref (am 17), .ref (am 18), .ref (am 19)])), ((am 5), aI q 6 Ki), ((am 7), aI q 6 Si)] sz) [(om, .inr (4, [.int 0, .int sa, .ref (am 0), .ref (am 1), .double mi, .ref (am 2), .ref (am 3), .ref (am 4), .int (nI nf), .ref (am 5), .ref (am 6), .ref (am 7), .ref (am 8), .ref (am 9), .ref (am 10), .ref (am 11), .ref (am 12), .ref (am 13), .ref (am 14), .ref (am 15), .ref (am 16), .ref (am 17), .ref (am 18), .ref (am 19)])), ((am 5), aI q 6 Ki), ((am 7), aI q 6 (vf_upd Si fx xt))] t) (va_A [(om, .inr (4, [.int th, .int sa, .ref (am 0), .ref (am 1), .double mi, .ref (am 2), .ref (am 3), .ref (am 4), .int (nI nf), .ref (am 5), .ref (am 6), .ref (am 7), .ref (am 8), .ref (am 9), .ref (am 10), .ref (am 11), .ref (am 12), .ref (am 13), .ref (am 14), .ref (am 15), .ref (am 16), .ref (am 17), .ref (am 18), .ref (am 19)])), ((am 5), aI q 6 Ki), ((am 7), aI q 6 Si)] sz)) 0 0 (va_A [(om, .inr (4, [.int th, .int sa, .ref (am 0), .ref (am 1), .double mi, .ref (am 2), .ref (am 3), .ref (am 4), .int (nI nf), .ref (am 5), .ref (am 6), .ref (am 7), .ref (am 8), .ref (am 9), .ref (am 10), .ref (am 11), .ref (am 12), .ref (am 13), .ref (am 14), .ref (am 15), .ref (am 16), .ref (am 17), .ref (am 18), .ref (am 19)])), ((am 5), aI q 6 Ki), ((am 7), aI q 6 Si)] sz) := by
  refine Met.ofW (cc := cX4_step) (maxL := 5) (ret := (some .int)) (by decide +kernel) rfl ?_
  intro p e s m args below meth c s₁ B hml hv
  obtain ⟨rfl, hsz, hP, hK, hD0, hNF⟩ := hv
  have hx := B.exec
  have hb := B.bytes
  have hr := B.returns
  have hts := atoms_spec (ws := wsX4_step) B.pre
  have hown : s.vm.findClass RX4 = some m.cls := findClass_of_methodNamed B.named
  have hlocks := B.notSynchronized
  subst hsz
  have hD := hD0.self (sz := s.heap.size)
  generalize hAe : va_A [(om, .inr (4, [.int th, .int sa, .ref (am 0), .ref (am 1), .double mi, .ref (am 2), .ref (am 3), .ref (am 4), .int (nI nf), .ref (am 5), .ref (am 6), .ref (am 7), .ref (am 8), .ref (am 9), .ref (am 10), .ref (am 11), .ref (am 12), .ref (am 13), .ref (am 14), .ref (am 15), .ref (am 16), .ref (am 17), .ref (am 18), .ref (am 19)])), ((am 5), aI q 6 Ki), ((am 7), aI q 6 Si)] s.heap.size = A at hD ⊢
  have hA : ∀ q : Nat, s.heap.size ≤ q → A q := fun q h => by rw [← hAe]; exact Or.inr h
  have hS : va_S A s.heap s.heap [] := va_S.rf
  have hP : va_P G vwCl [(om, .inr (4, [.int th, .int sa, .ref (am 0), .ref (am 1), .double mi, .ref (am 2), .ref (am 3), .ref (am 4), .int (nI nf), .ref (am 5), .ref (am 6), .ref (am 7), .ref (am 8), .ref (am 9), .ref (am 10), .ref (am 11), .ref (am 12), .ref (am 13), .ref (am 14), .ref (am 15), .ref (am 16), .ref (am 17), .ref (am 18), .ref (am 19)])), ((am 5), aI q 6 Ki), ((am 7), aI q 6 Si)] s.heap := hP
  have hl := lv_entry ([.ref om, .int (nI fx), .int xt]) (n := 5) (Nat.le_of_ble_eq_true rfl)
  rw [lg_entry_eq]
  generalize (lg_sl ([.ref om, .int (nI fx), .int xt]) ++ List.replicate (5 - (lg_sl ([.ref om, .int (nI fx), .int xt])).length) Slot.unset).toArray = ls at hl ⊢
  have hl : lv_has ls 5 [(0, .ref om), (1, .int (nI fx)), (2, .int xt)] := hl
  refine lv_aload_n hx hb dX4_step_0 rfl (lv_at hl 0 rfl) ?_
  refine lv_iload_n hx hb dX4_step_1 rfl (lv_at hl 1 rfl) ?_
  have hPc := hP.sub (ws' := [(om, .inr (4, [.int th, .int sa, .ref (am 0), .ref (am 1), .double mi, .ref (am 2), .ref (am 3), .ref (am 4), .int (nI nf), .ref (am 5), .ref (am 6), .ref (am 7), .ref (am 8), .ref (am 9), .ref (am 10), .ref (am 11), .ref (am 12), .ref (am 13), .ref (am 14), .ref (am 15), .ref (am 16), .ref (am 17), .ref (am 18), .ref (am 19)]))]) [0] rfl
  have hDc := hD.sub (ws' := [(om, .inr (4, [.int th, .int sa, .ref (am 0), .ref (am 1), .double mi, .ref (am 2), .ref (am 3), .ref (am 4), .int (nI nf), .ref (am 5), .ref (am 6), .ref (am 7), .ref (am 8), .ref (am 9), .ref (am 10), .ref (am 11), .ref (am 12), .ref (am 13), .ref (am 14), .ref (am 15), .ref (am 16), .ref (am 17), .ref (am 18), .ref (am 19)]))]) [0] (by decide) rfl
  have hFc := va_free (wc := [(om, .inr (4, [.int th, .int sa, .ref (am 0), .ref (am 1), .double mi, .ref (am 2), .ref (am 3), .ref (am 4), .int (nI nf), .ref (am 5), .ref (am 6), .ref (am 7), .ref (am 8), .ref (am 9), .ref (am 10), .ref (am 11), .ref (am 12), .ref (am 13), .ref (am 14), .ref (am 15), .ref (am 16), .ref (am 17), .ref (am 18), .ref (am 19)]))]) hD hS hA [0] rfl
  refine va_calli (va_runV (As := [.int (nI fx)]) (rest := []) ⟨hx, hb, hml, hown, hts⟩ (m_X4_isFilter l G q s.heap.size om am th sa (nI nf) mi (nI fx)) (cwV 1 hts gX4_step_X4_isFilter rfl rfl rfl (by decide +kernel) ⟨Nat.le_of_ble_eq_true rfl, Nat.le_of_ble_eq_true rfl⟩) ⟨preW_blind, (va_recv hK hPc (ci := 4) (q0 := 0) rfl rfl), preW_start hPc hK hDc hNF⟩ rfl rfl hl.1 rfl (lv_room (Nat.le_of_ble_eq_true rfl)) dX4_step_2 ⟨(Nat.zero_le _), (Nat.zero_le _)⟩) hS (fun q _ h => hFc q h) hFc (fun rf1 u9 t9 H1 locs ht9 hv9 hw hB9 hz9 hk9 hS => ?_)
  obtain ⟨⟩ := u9
  obtain ⟨hP1, hD1⟩ := hB9
  rw [ht9] at hP1
  obtain ⟨hP, hD⟩ := va_join (wr := [((am 5), aI q 6 Ki), ((am 7), aI q 6 Si)]) (w1 := [(om, .inr (4, [.int th, .int sa, .ref (am 0), .ref (am 1), .double mi, .ref (am 2), .ref (am 3), .ref (am 4), .int (nI nf), .ref (am 5), .ref (am 6), .ref (am 7), .ref (am 8), .ref (am 9), .ref (am 10), .ref (am 11), .ref (am 12), .ref (am 13), .ref (am 14), .ref (am 15), .ref (am 16), .ref (am 17), .ref (am 18), .ref (am 19)]))]) hP hD [0] [1, 2] rfl rfl (by decide) (by decide) hk9 hFc hP1 hD1
  generalize H1 = H at hP hS ⊢
  have hP : va_P G vwCl [((am 5), aI q 6 Ki), ((am 7), aI q 6 Si), (om, .inr (4, [.int th, .int sa, .ref (am 0), .ref (am 1), .double mi, .ref (am 2), .ref (am 3), .ref (am 4), .int (nI nf), .ref (am 5), .ref (am 6), .ref (am 7), .ref (am 8), .ref (am 9), .ref (am 10), .ref (am 11), .ref (am 12), .ref (am 13), .ref (am 14), .ref (am 15), .ref (am 16), .ref (am 17), .ref (am 18), .ref (am 19)]))] H := hP
  have hD : va_D A [((am 5), aI q 6 Ki), ((am 7), aI q 6 Si), (om, .inr (4, [.int th, .int sa, .ref (am 0), .ref (am 1), .double mi, .ref (am 2), .ref (am 3), .ref (am 4), .int (nI nf), .ref (am 5), .ref (am 6), .ref (am 7), .ref (am 8), .ref (am 9), .ref (am 10), .ref (am 11), .ref (am 12), .ref (am 13), .ref (am 14), .ref (am 15), .ref (am 16), .ref (am 17), .ref (am 18), .ref (am 19)]))] := hD
  obtain rfl : rf1 = 1 := hw.trans (if_pos (m1_in (by omega) hfx))
  refine lv_istore_n (lv' := [(3, .int 1), (0, .ref om), (1, .int (nI fx)), (2, .int xt)]) hx hb dX4_step_5 rfl hl (by decide) rfl (fun ls hl => ?_)
  refine lv_aload_n hx hb dX4_step_6 rfl (lv_at hl 1 rfl) ?_
  refine lv_iload_n hx hb dX4_step_7 rfl (lv_at hl 0 rfl) ?_
  refine lv_if_ne (tgt := 15) hx hb dX4_step_8 (by decide) (fun _ => ?_) (fun h => absurd h (by decide))
  refine lv_aload_n hx hb dX4_step_15 rfl (lv_at hl 1 rfl) ?_
  refine va_get (D := G) (ci := 4) (v := .ref (am 5)) (C := RX4) (T := TX4) (N := 24) hx hb hts in_X4_step_X4 hown hK hP 2 rfl rfl 9 (by decide) (hts (.fieldLink RX4 26 "EchoBenchModel" "kind" "[I") (by decide +kernel)) (fun _ h9 => h9) rfl dX4_step_16 ?_
  refine lv_iload_n hx hb dX4_step_19 rfl (lv_at hl 2 rfl) ?_
  refine va_ialdJ hx hb hK hP 0 0 rfl rfl (j := fx) rfl (by omega) (by decide) dX4_step_20 ?_
  refine lv_iload_n hx hb dX4_step_21 rfl (lv_at hl 3 rfl) ?_
  have hPc := hP.sub (ws' := []) [] rfl
  have hDc := hD.sub (ws' := []) [] (by decide) rfl
  have hFc := va_free (wc := []) hD hS hA [] rfl
  refine va_calli (va_runS (As := [.int (Ki fx), .int xt]) (rest := [.ref om]) ⟨hx, hb, hml, hown, hts⟩ (m_X4_isStep l G q H.size (Ki fx) xt) (va_cwS 2 hts gX4_step_X4_isStep rfl rfl rfl (by decide +kernel) ⟨Nat.le_of_ble_eq_true rfl, Nat.le_of_ble_eq_true rfl⟩) ⟨preW_blind, preW_start hPc hK hDc hNF⟩ rfl rfl hl.1 rfl (lv_room (Nat.le_of_ble_eq_true rfl)) dX4_step_22 ⟨(Nat.zero_le _), (Nat.zero_le _)⟩) hS (fun q _ h => hFc q h) hFc (fun rs4 u9 t9 H1 locs ht9 hv9 hw hB9 hz9 hk9 hS => ?_)
  obtain ⟨⟩ := u9
  obtain ⟨hP1, hD1⟩ := hB9
  rw [ht9] at hP1
  obtain ⟨hP, hD⟩ := va_join (wr := [((am 5), aI q 6 Ki), ((am 7), aI q 6 Si), (om, .inr (4, [.int th, .int sa, .ref (am 0), .ref (am 1), .double mi, .ref (am 2), .ref (am 3), .ref (am 4), .int (nI nf), .ref (am 5), .ref (am 6), .ref (am 7), .ref (am 8), .ref (am 9), .ref (am 10), .ref (am 11), .ref (am 12), .ref (am 13), .ref (am 14), .ref (am 15), .ref (am 16), .ref (am 17), .ref (am 18), .ref (am 19)]))]) (w1 := []) hP hD [] [0, 1, 2] rfl rfl (by decide) (by decide) hk9 hFc hP1 hD1
  generalize H1 = H at hP hS ⊢
  have hP : va_P G vwCl [((am 5), aI q 6 Ki), ((am 7), aI q 6 Si), (om, .inr (4, [.int th, .int sa, .ref (am 0), .ref (am 1), .double mi, .ref (am 2), .ref (am 3), .ref (am 4), .int (nI nf), .ref (am 5), .ref (am 6), .ref (am 7), .ref (am 8), .ref (am 9), .ref (am 10), .ref (am 11), .ref (am 12), .ref (am 13), .ref (am 14), .ref (am 15), .ref (am 16), .ref (am 17), .ref (am 18), .ref (am 19)]))] H := hP
  have hD : va_D A [((am 5), aI q 6 Ki), ((am 7), aI q 6 Si), (om, .inr (4, [.int th, .int sa, .ref (am 0), .ref (am 1), .double mi, .ref (am 2), .ref (am 3), .ref (am 4), .int (nI nf), .ref (am 5), .ref (am 6), .ref (am 7), .ref (am 8), .ref (am 9), .ref (am 10), .ref (am 11), .ref (am 12), .ref (am 13), .ref (am 14), .ref (am 15), .ref (am 16), .ref (am 17), .ref (am 18), .ref (am 19)]))] := hD
  obtain rfl : rs4 = 1 := hw.trans (stp_1 hs)
  refine lv_if_eq (tgt := 32) hx hb dX4_step_25 (by decide) (fun h => absurd h (by decide)) (fun _ => ?_)
  refine lv_iconst (v := 0) hx hb dX4_step_28 (by decide) ?_
  refine lv_goto (tgt := 33) hx hb dX4_step_29 (by decide) ?_
  have hPc := hP.sub (ws' := [(om, .inr (4, [.int th, .int sa, .ref (am 0), .ref (am 1), .double mi, .ref (am 2), .ref (am 3), .ref (am 4), .int (nI nf), .ref (am 5), .ref (am 6), .ref (am 7), .ref (am 8), .ref (am 9), .ref (am 10), .ref (am 11), .ref (am 12), .ref (am 13), .ref (am 14), .ref (am 15), .ref (am 16), .ref (am 17), .ref (am 18), .ref (am 19)]))]) [2] rfl
  have hDc := hD.sub (ws' := [(om, .inr (4, [.int th, .int sa, .ref (am 0), .ref (am 1), .double mi, .ref (am 2), .ref (am 3), .ref (am 4), .int (nI nf), .ref (am 5), .ref (am 6), .ref (am 7), .ref (am 8), .ref (am 9), .ref (am 10), .ref (am 11), .ref (am 12), .ref (am 13), .ref (am 14), .ref (am 15), .ref (am 16), .ref (am 17), .ref (am 18), .ref (am 19)]))]) [2] (by decide) rfl
  have hFc := va_free (wc := [(om, .inr (4, [.int th, .int sa, .ref (am 0), .ref (am 1), .double mi, .ref (am 2), .ref (am 3), .ref (am 4), .int (nI nf), .ref (am 5), .ref (am 6), .ref (am 7), .ref (am 8), .ref (am 9), .ref (am 10), .ref (am 11), .ref (am 12), .ref (am 13), .ref (am 14), .ref (am 15), .ref (am 16), .ref (am 17), .ref (am 18), .ref (am 19)]))]) hD hS hA [2] rfl
  refine va_calli (va_runV (As := [.int 0]) (rest := []) ⟨hx, hb, hml, hown, hts⟩ (m_X4_goesWell l G q H.size om am th sa (nI nf) mi 0) (cwV 1 hts gX4_step_X4_goesWell rfl rfl rfl (by decide +kernel) ⟨Nat.le_of_ble_eq_true rfl, Nat.le_of_ble_eq_true rfl⟩) ⟨preW_blind, (va_recv hK hPc (ci := 4) (q0 := 0) rfl rfl), preW_start hPc hK hDc hNF⟩ rfl rfl hl.1 rfl (lv_room (Nat.le_of_ble_eq_true rfl)) dX4_step_33 ⟨(Nat.zero_le _), (Nat.zero_le _)⟩) hS (fun q _ h => hFc q h) hFc (fun gr7 u9 t9 H1 locs ht9 hv9 hw hB9 hz9 hk9 hS => ?_)
  obtain ⟨⟩ := u9
  obtain ⟨hP1, hD1⟩ := hB9
  rw [ht9] at hP1
  obtain ⟨hP, hD⟩ := va_join (wr := [((am 5), aI q 6 Ki), ((am 7), aI q 6 Si)]) (w1 := [(om, .inr (4, [.int 0, .int sa, .ref (am 0), .ref (am 1), .double mi, .ref (am 2), .ref (am 3), .ref (am 4), .int (nI nf), .ref (am 5), .ref (am 6), .ref (am 7), .ref (am 8), .ref (am 9), .ref (am 10), .ref (am 11), .ref (am 12), .ref (am 13), .ref (am 14), .ref (am 15), .ref (am 16), .ref (am 17), .ref (am 18), .ref (am 19)]))]) hP hD [2] [0, 1] rfl rfl (by decide) (by decide) hk9 hFc hP1 hD1
  generalize H1 = H at hP hS ⊢
  have hP : va_P G vwCl [((am 5), aI q 6 Ki), ((am 7), aI q 6 Si), (om, .inr (4, [.int 0, .int sa, .ref (am 0), .ref (am 1), .double mi, .ref (am 2), .ref (am 3), .ref (am 4), .int (nI nf), .ref (am 5), .ref (am 6), .ref (am 7), .ref (am 8), .ref (am 9), .ref (am 10), .ref (am 11), .ref (am 12), .ref (am 13), .ref (am 14), .ref (am 15), .ref (am 16), .ref (am 17), .ref (am 18), .ref (am 19)]))] H := hP
  have hD : va_D A [((am 5), aI q 6 Ki), ((am 7), aI q 6 Si), (om, .inr (4, [.int 0, .int sa, .ref (am 0), .ref (am 1), .double mi, .ref (am 2), .ref (am 3), .ref (am 4), .int (nI nf), .ref (am 5), .ref (am 6), .ref (am 7), .ref (am 8), .ref (am 9), .ref (am 10), .ref (am 11), .ref (am 12), .ref (am 13), .ref (am 14), .ref (am 15), .ref (am 16), .ref (am 17), .ref (am 18), .ref (am 19)]))] := hD
  obtain rfl : gr7 = 1 := hw.trans (by decide)
  refine lv_if_ne (tgt := 41) hx hb dX4_step_36 (by decide) (fun _ => ?_) (fun h => absurd h (by decide))
  refine lv_aload_n hx hb dX4_step_41 rfl (lv_at hl 1 rfl) ?_
  refine va_get (D := G) (ci := 4) (v := .ref (am 7)) (C := RX4) (T := TX4) (N := 24) hx hb hts in_X4_step_X4 hown hK hP 2 rfl rfl 11 (by decide) (hts (.fieldLink RX4 32 "EchoBenchModel" "step" "[I") (by decide +kernel)) (fun _ h9 => h9) rfl dX4_step_42 ?_
  refine lv_iload_n hx hb dX4_step_45 rfl (lv_at hl 2 rfl) ?_
  refine va_ialdJ hx hb hK hP 1 0 rfl rfl (j := fx) rfl (by omega) (by decide) dX4_step_46 ?_
  refine lv_istore (lv' := [(4, .int (Si fx)), (3, .int 1), (0, .ref om), (1, .int (nI fx)), (2, .int xt)]) hx hb dX4_step_47 hl (by decide) rfl (fun ls hl => ?_)
  refine lv_aload_n hx hb dX4_step_49 rfl (lv_at hl 2 rfl) ?_
  refine va_get (D := G) (ci := 4) (v := .ref (am 7)) (C := RX4) (T := TX4) (N := 24) hx hb hts in_X4_step_X4 hown hK hP 2 rfl rfl 11 (by decide) (hts (.fieldLink RX4 32 "EchoBenchModel" "step" "[I") (by decide +kernel)) (fun _ h9 => h9) rfl dX4_step_50 ?_
  refine lv_iload_n hx hb dX4_step_53 rfl (lv_at hl 3 rfl) ?_
  refine lv_iload_n hx hb dX4_step_54 rfl (lv_at hl 4 rfl) ?_
  refine va_iastJ hx hb hK hP hD hS 1 0 rfl rfl (j := fx) rfl (by omega) (by decide) dX4_step_55 (fun H locs hP hD hS => ?_)
  have hP : va_P G vwCl [((am 5), aI q 6 Ki), ((am 7), aI q 6 (vf_upd Si fx xt)), (om, .inr (4, [.int 0, .int sa, .ref (am 0), .ref (am 1), .double mi, .ref (am 2), .ref (am 3), .ref (am 4), .int (nI nf), .ref (am 5), .ref (am 6), .ref (am 7), .ref (am 8), .ref (am 9), .ref (am 10), .ref (am 11), .ref (am 12), .ref (am 13), .ref (am 14), .ref (am 15), .ref (am 16), .ref (am 17), .ref (am 18), .ref (am 19)]))] H := hP
  have hD : va_D A [((am 5), aI q 6 Ki), ((am 7), aI q 6 (vf_upd Si fx xt)), (om, .inr (4, [.int 0, .int sa, .ref (am 0), .ref (am 1), .double mi, .ref (am 2), .ref (am 3), .ref (am 4), .int (nI nf), .ref (am 5), .ref (am 6), .ref (am 7), .ref (am 8), .ref (am 9), .ref (am 10), .ref (am 11), .ref (am 12), .ref (am 13), .ref (am 14), .ref (am 15), .ref (am 16), .ref (am 17), .ref (am 18), .ref (am 19)]))] := hD
  refine lv_iload hx hb dX4_step_56 (lv_at hl 0 rfl) ?_
  have hP := hP.sub (ws' := [(om, .inr (4, [.int 0, .int sa, .ref (am 0), .ref (am 1), .double mi, .ref (am 2), .ref (am 3), .ref (am 4), .int (nI nf), .ref (am 5), .ref (am 6), .ref (am 7), .ref (am 8), .ref (am 9), .ref (am 10), .ref (am 11), .ref (am 12), .ref (am 13), .ref (am 14), .ref (am 15), .ref (am 16), .ref (am 17), .ref (am 18), .ref (am 19)])), ((am 5), aI q 6 Ki), ((am 7), aI q 6 (vf_upd Si fx xt))]) [2, 0, 1] rfl
  have hD := hD.sub (ws' := [(om, .inr (4, [.int 0, .int sa, .ref (am 0), .ref (am 1), .double mi, .ref (am 2), .ref (am 3), .ref (am 4), .int (nI nf), .ref (am 5), .ref (am 6), .ref (am 7), .ref (am 8), .ref (am 9), .ref (am 10), .ref (am 11), .ref (am 12), .ref (am 13), .ref (am 14), .ref (am 15), .ref (am 16), .ref (am 17), .ref (am 18), .ref (am 19)])), ((am 5), aI q 6 Ki), ((am 7), aI q 6 (vf_upd Si fx xt))]) [2, 0, 1] (by decide) rfl
  have hP9 := hP
  have hD9 := hD
  exact W.iret (v := Si fx) hx hb hr (fun t ht hW => ⟨⟨Si fx, (), rfl, rfl, by rw [ht]; exact hP9, hD9⟩, hS.F ht⟩) hS.2.2 dX4_step_58

set_option maxHeartbeats 4000000 in
set_option maxRecDepth 100000 in
/-- watch: where it throws -/
theorem m_X4_watch_no (l : Launch) (G : va_G) (q : Nat → ClassId) (sz : Nat) (om : Nat) (am : Nat → Nat) (th sa : Int32) (mi : UInt64) (nf : Nat) (f xa xb : Int32) (hnf : nf ≤ 6) (hc : ¬ watchC f xa xb (nI nf) = 0) : Met l yX4_watch wsX4_watch ({ frames := 2, cells := 0, slots := 0, locals := 43 } : Jvm.Room) (PreW G q [.ref om, .int f, .int xa, .int xb] [(om, .inr (4, [.int th, .int sa, .ref (am 0), .ref (am 1), .double mi, .ref (am 2), .ref (am 3), .ref (am 4), .int (nI nf), .ref (am 5), .ref (am 6), .ref (am 7), .ref (am 8), .ref (am 9), .ref (am 10), .ref (am 11), .ref (am 12), .ref (am 13), .ref (am 14), .ref (am 15), .ref (am 16), .ref (am 17), .ref (am 18), .ref (am 19)]))] sz) (va_Qv (fun (u : Int32) => u = watchC f xa xb (nI nf)) (fun (u : Int32) t => EndA G (va_A [(om, .inr (4, [.int th, .int sa, .ref (am 0), .ref (am 1), .double mi, .ref (am 2), .ref (am 3), .ref (am 4), .int (nI nf), .ref (am 5), .ref (am 6), .ref (am 7), .ref (am 8), .ref (am 9), .ref (am 10), .ref (am 11), .ref (am 12), .ref (am 13), .ref (am 14), .ref (am 15), .ref (am 16), .ref (am 17), .ref (am 18), .ref (am 19)]))] sz) [(om, .inr (4, [.int u, .int sa, .ref (am 0), .ref (am 1), .double mi, .ref (am 2), .ref (am 3), .ref (am 4), .int (nI nf), .ref (am 5), .ref (am 6), .ref (am 7), .ref (am 8), .ref (am 9), .ref (am 10), .ref (am 11), .ref (am 12), .ref (am 13), .ref (am 14), .ref (am 15), .ref (am 16), .ref (am 17), .ref (am 18), .ref (am 19)]))] t) (va_A [(om, .inr (4, [.int th, .int sa, .ref (am 0), .ref (am 1), .double mi, .ref (am 2), .ref (am 3), .ref (am 4), .int (nI nf), .ref (am 5), .ref (am 6), .ref (am 7), .ref (am 8), .ref (am 9), .ref (am 10), .ref (am 11), .ref (am 12), .ref (am 13), .ref (am 14), .ref (am 15), .ref (am 16), .ref (am 17), .ref (am 18), .ref (am 19)]))] sz)) 0 0 (va_A [(om, .inr (4, [.int th, .int sa, .ref (am 0), .ref (am 1), .double mi, .ref (am 2), .ref (am 3), .ref (am 4), .int (nI nf), .ref (am 5), .ref (am 6), .ref (am 7), .ref (am 8), .ref (am 9), .ref (am 10), .ref (am 11), .ref (am 12), .ref (am 13), .ref (am 14), .ref (am 15), .ref (am 16), .ref (am 17), .ref (am 18), .ref (am 19)]))] sz) := by
  refine Met.ofW (cc := cX4_watch) (maxL := 5) (ret := none) (by decide +kernel) rfl ?_
  intro p e s m args below meth c s₁ B hml hv
  obtain ⟨rfl, hsz, hP, hK, hD0, hNF⟩ := hv
  have hx := B.exec
  have hb := B.bytes
  have hr := B.returns
  have hts := atoms_spec (ws := wsX4_watch) B.pre
  have hown : s.vm.findClass RX4 = some m.cls := findClass_of_methodNamed B.named
  have hlocks := B.notSynchronized
  subst hsz
  have hD := hD0.self (sz := s.heap.size)
  generalize hAe : va_A [(om, .inr (4, [.int th, .int sa, .ref (am 0), .ref (am 1), .double mi, .ref (am 2), .ref (am 3), .ref (am 4), .int (nI nf), .ref (am 5), .ref (am 6), .ref (am 7), .ref (am 8), .ref (am 9), .ref (am 10), .ref (am 11), .ref (am 12), .ref (am 13), .ref (am 14), .ref (am 15), .ref (am 16), .ref (am 17), .ref (am 18), .ref (am 19)]))] s.heap.size = A at hD ⊢
  have hA : ∀ q : Nat, s.heap.size ≤ q → A q := fun q h => by rw [← hAe]; exact Or.inr h
  have hS : va_S A s.heap s.heap [] := va_S.rf
  have hP : va_P G vwCl [(om, .inr (4, [.int th, .int sa, .ref (am 0), .ref (am 1), .double mi, .ref (am 2), .ref (am 3), .ref (am 4), .int (nI nf), .ref (am 5), .ref (am 6), .ref (am 7), .ref (am 8), .ref (am 9), .ref (am 10), .ref (am 11), .ref (am 12), .ref (am 13), .ref (am 14), .ref (am 15), .ref (am 16), .ref (am 17), .ref (am 18), .ref (am 19)]))] s.heap := hP
  have hl := lv_entry ([.ref om, .int f, .int xa, .int xb]) (n := 5) (Nat.le_of_ble_eq_true rfl)
  rw [lg_entry_eq]
  generalize (lg_sl ([.ref om, .int f, .int xa, .int xb]) ++ List.replicate (5 - (lg_sl ([.ref om, .int f, .int xa, .int xb])).length) Slot.unset).toArray = ls at hl ⊢
  have hl : lv_has ls 5 [(0, .ref om), (1, .int f), (2, .int xa), (3, .int xb)] := hl
  refine lv_aload_n hx hb dX4_watch_0 rfl (lv_at hl 0 rfl) ?_
  refine lv_iload_n hx hb dX4_watch_1 rfl (lv_at hl 1 rfl) ?_
  have hPc := hP.sub (ws' := [(om, .inr (4, [.int th, .int sa, .ref (am 0), .ref (am 1), .double mi, .ref (am 2), .ref (am 3), .ref (am 4), .int (nI nf), .ref (am 5), .ref (am 6), .ref (am 7), .ref (am 8), .ref (am 9), .ref (am 10), .ref (am 11), .ref (am 12), .ref (am 13), .ref (am 14), .ref (am 15), .ref (am 16), .ref (am 17), .ref (am 18), .ref (am 19)]))]) [0] rfl
  have hDc := hD.sub (ws' := [(om, .inr (4, [.int th, .int sa, .ref (am 0), .ref (am 1), .double mi, .ref (am 2), .ref (am 3), .ref (am 4), .int (nI nf), .ref (am 5), .ref (am 6), .ref (am 7), .ref (am 8), .ref (am 9), .ref (am 10), .ref (am 11), .ref (am 12), .ref (am 13), .ref (am 14), .ref (am 15), .ref (am 16), .ref (am 17), .ref (am 18), .ref (am 19)]))]) [0] (by decide) rfl
  have hFc := va_free (wc := [(om, .inr (4, [.int th, .int sa, .ref (am 0), .ref (am 1), .double mi, .ref (am 2), .ref (am 3), .ref (am 4), .int (nI nf), .ref (am 5), .ref (am 6), .ref (am 7), .ref (am 8), .ref (am 9), .ref (am 10), .ref (am 11), .ref (am 12), .ref (am 13), .ref (am 14), .ref (am 15), .ref (am 16), .ref (am 17), .ref (am 18), .ref (am 19)]))]) hD hS hA [0] rfl
  refine va_calli (va_runV (As := [.int f]) (rest := []) ⟨hx, hb, hml, hown, hts⟩ (m_X4_isFilter l G q s.heap.size om am th sa (nI nf) mi f) (cwV 1 hts gX4_watch_X4_isFilter rfl rfl rfl (by decide +kernel) ⟨Nat.le_of_ble_eq_true rfl, Nat.le_of_ble_eq_true rfl⟩) ⟨preW_blind, (va_recv hK hPc (ci := 4) (q0 := 0) rfl rfl), preW_start hPc hK hDc hNF⟩ rfl rfl hl.1 rfl (lv_room (Nat.le_of_ble_eq_true rfl)) dX4_watch_2 ⟨(Nat.zero_le _), (Nat.zero_le _)⟩) hS (fun q _ h => hFc q h) hFc (fun rf1 u9 t9 H1 locs ht9 hv9 hw hB9 hz9 hk9 hS => ?_)
  obtain ⟨⟩ := u9
  obtain ⟨hP1, hD1⟩ := hB9
  rw [ht9] at hP1
  obtain ⟨hP, hD⟩ := va_join (wr := []) (w1 := [(om, .inr (4, [.int th, .int sa, .ref (am 0), .ref (am 1), .double mi, .ref (am 2), .ref (am 3), .ref (am 4), .int (nI nf), .ref (am 5), .ref (am 6), .ref (am 7), .ref (am 8), .ref (am 9), .ref (am 10), .ref (am 11), .ref (am 12), .ref (am 13), .ref (am 14), .ref (am 15), .ref (am 16), .ref (am 17), .ref (am 18), .ref (am 19)]))]) hP hD [0] [] rfl rfl (by decide) (by decide) hk9 hFc hP1 hD1
  generalize H1 = H at hP hS ⊢
  have hP : va_P G vwCl [(om, .inr (4, [.int th, .int sa, .ref (am 0), .ref (am 1), .double mi, .ref (am 2), .ref (am 3), .ref (am 4), .int (nI nf), .ref (am 5), .ref (am 6), .ref (am 7), .ref (am 8), .ref (am 9), .ref (am 10), .ref (am 11), .ref (am 12), .ref (am 13), .ref (am 14), .ref (am 15), .ref (am 16), .ref (am 17), .ref (am 18), .ref (am 19)]))] H := hP
  have hD : va_D A [(om, .inr (4, [.int th, .int sa, .ref (am 0), .ref (am 1), .double mi, .ref (am 2), .ref (am 3), .ref (am 4), .int (nI nf), .ref (am 5), .ref (am 6), .ref (am 7), .ref (am 8), .ref (am 9), .ref (am 10), .ref (am 11), .ref (am 12), .ref (am 13), .ref (am 14), .ref (am 15), .ref (am 16), .ref (am 17), .ref (am 18), .ref (am 19)]))] := hD
  by_cases ci3 : isF f (nI nf)
  rotate_left
  · skip
    obtain rfl : rf1 = 0 := hw.trans (if_neg ci3)
    refine lv_istore (lv' := [(4, .int 0), (0, .ref om), (1, .int f), (2, .int xa), (3, .int xb)]) hx hb dX4_watch_5 hl (by decide) rfl (fun ls hl => ?_)
    refine lv_aload_n hx hb dX4_watch_7 rfl (lv_at hl 1 rfl) ?_
    refine lv_iload hx hb dX4_watch_8 (lv_at hl 0 rfl) ?_
    refine lv_if_ne (tgt := 17) hx hb dX4_watch_10 (by decide) (fun h => absurd (by decide) h) (fun _ => ?_)
    refine lv_iconst (v := 1) hx hb dX4_watch_13 (by decide) ?_
    refine lv_goto (tgt := 43) hx hb dX4_watch_14 (by decide) ?_
    have hPc := hP.sub (ws' := [(om, .inr (4, [.int th, .int sa, .ref (am 0), .ref (am 1), .double mi, .ref (am 2), .ref (am 3), .ref (am 4), .int (nI nf), .ref (am 5), .ref (am 6), .ref (am 7), .ref (am 8), .ref (am 9), .ref (am 10), .ref (am 11), .ref (am 12), .ref (am 13), .ref (am 14), .ref (am 15), .ref (am 16), .ref (am 17), .ref (am 18), .ref (am 19)]))]) [0] rfl
    have hDc := hD.sub (ws' := [(om, .inr (4, [.int th, .int sa, .ref (am 0), .ref (am 1), .double mi, .ref (am 2), .ref (am 3), .ref (am 4), .int (nI nf), .ref (am 5), .ref (am 6), .ref (am 7), .ref (am 8), .ref (am 9), .ref (am 10), .ref (am 11), .ref (am 12), .ref (am 13), .ref (am 14), .ref (am 15), .ref (am 16), .ref (am 17), .ref (am 18), .ref (am 19)]))]) [0] (by decide) rfl
    have hFc := va_free (wc := [(om, .inr (4, [.int th, .int sa, .ref (am 0), .ref (am 1), .double mi, .ref (am 2), .ref (am 3), .ref (am 4), .int (nI nf), .ref (am 5), .ref (am 6), .ref (am 7), .ref (am 8), .ref (am 9), .ref (am 10), .ref (am 11), .ref (am 12), .ref (am 13), .ref (am 14), .ref (am 15), .ref (am 16), .ref (am 17), .ref (am 18), .ref (am 19)]))]) hD hS hA [0] rfl
    refine va_calli (va_runV (As := [.int 1]) (rest := []) ⟨hx, hb, hml, hown, hts⟩ (m_X4_goesWell l G q H.size om am th sa (nI nf) mi 1) (cwV 1 hts gX4_watch_X4_goesWell rfl rfl rfl (by decide +kernel) ⟨Nat.le_of_ble_eq_true rfl, Nat.le_of_ble_eq_true rfl⟩) ⟨preW_blind, (va_recv hK hPc (ci := 4) (q0 := 0) rfl rfl), preW_start hPc hK hDc hNF⟩ rfl rfl hl.1 rfl (lv_room (Nat.le_of_ble_eq_true rfl)) dX4_watch_43 ⟨(Nat.zero_le _), (Nat.zero_le _)⟩) hS (fun q _ h => hFc q h) hFc (fun gr5 u9 t9 H1 locs ht9 hv9 hw hB9 hz9 hk9 hS => ?_)
    obtain ⟨⟩ := u9
    obtain ⟨hP1, hD1⟩ := hB9
    rw [ht9] at hP1
    obtain ⟨hP, hD⟩ := va_join (wr := []) (w1 := [(om, .inr (4, [.int 1, .int sa, .ref (am 0), .ref (am 1), .double mi, .ref (am 2), .ref (am 3), .ref (am 4), .int (nI nf), .ref (am 5), .ref (am 6), .ref (am 7), .ref (am 8), .ref (am 9), .ref (am 10), .ref (am 11), .ref (am 12), .ref (am 13), .ref (am 14), .ref (am 15), .ref (am 16), .ref (am 17), .ref (am 18), .ref (am 19)]))]) hP hD [0] [] rfl rfl (by decide) (by decide) hk9 hFc hP1 hD1
    generalize H1 = H at hP hS ⊢
    have hP : va_P G vwCl [(om, .inr (4, [.int 1, .int sa, .ref (am 0), .ref (am 1), .double mi, .ref (am 2), .ref (am 3), .ref (am 4), .int (nI nf), .ref (am 5), .ref (am 6), .ref (am 7), .ref (am 8), .ref (am 9), .ref (am 10), .ref (am 11), .ref (am 12), .ref (am 13), .ref (am 14), .ref (am 15), .ref (am 16), .ref (am 17), .ref (am 18), .ref (am 19)]))] H := hP
    have hD : va_D A [(om, .inr (4, [.int 1, .int sa, .ref (am 0), .ref (am 1), .double mi, .ref (am 2), .ref (am 3), .ref (am 4), .int (nI nf), .ref (am 5), .ref (am 6), .ref (am 7), .ref (am 8), .ref (am 9), .ref (am 10), .ref (am 11), .ref (am 12), .ref (am 13), .ref (am 14), .ref (am 15), .ref (am 16), .ref (am 17), .ref (am 18), .ref (am 19)]))] := hD
    obtain rfl : gr5 = 0 := hw.trans (by decide)
    refine lv_if_eq (tgt := 63) hx hb dX4_watch_46 (by decide) (fun _ => ?_) (fun h => absurd (by decide) h)
    have hP9 := hP
    have hD9 := hD
    exact W.vret hx hb hr (fun t ht hW => ⟨⟨1, rfl, by dsimp only; unfold watchC; rw [if_neg ci3], by rw [ht]; exact hP9, hD9⟩, hS.F ht⟩) hS.2.2 dX4_watch_63
  obtain rfl : rf1 = 1 := hw.trans (if_pos ci3)
  refine lv_istore (lv' := [(4, .int 1), (0, .ref om), (1, .int f), (2, .int xa), (3, .int xb)]) hx hb dX4_watch_5 hl (by decide) rfl (fun ls hl => ?_)
  refine lv_aload_n hx hb dX4_watch_7 rfl (lv_at hl 1 rfl) ?_
  refine lv_iload hx hb dX4_watch_8 (lv_at hl 0 rfl) ?_
  refine lv_if_ne (tgt := 17) hx hb dX4_watch_10 (by decide) (fun _ => ?_) (fun h => absurd h (by decide))
  refine lv_iload_n hx hb dX4_watch_17 rfl (lv_at hl 3 rfl) ?_
  refine lv_iconst (v := 0) hx hb dX4_watch_18 (by decide) ?_
  refine lv_sipush (v := 1000) hx hb dX4_watch_19 (by decide) ?_
  have hPc := hP.sub (ws' := []) [] rfl
  have hDc := hD.sub (ws' := []) [] (by decide) rfl
  have hFc := va_free (wc := []) hD hS hA [] rfl
  refine va_calli (va_runS (As := [.int xa, .int 0, .int 1000]) (rest := [.ref om]) ⟨hx, hb, hml, hown, hts⟩ (m_X4_in l G q H.size xa 0 1000) (va_cwS 3 hts gX4_watch_X4_in rfl rfl rfl (by decide +kernel) ⟨Nat.le_of_ble_eq_true rfl, Nat.le_of_ble_eq_true rfl⟩) ⟨preW_blind, preW_start hPc hK hDc hNF⟩ rfl rfl hl.1 rfl (lv_room (Nat.le_of_ble_eq_true rfl)) dX4_watch_22 ⟨(Nat.zero_le _), (Nat.zero_le _)⟩) hS (fun q _ h => hFc q h) hFc (fun ri9 u9 t9 H1 locs ht9 hv9 hw hB9 hz9 hk9 hS => ?_)
  obtain ⟨⟩ := u9
  obtain ⟨hP1, hD1⟩ := hB9
  rw [ht9] at hP1
  obtain ⟨hP, hD⟩ := va_join (wr := [(om, .inr (4, [.int th, .int sa, .ref (am 0), .ref (am 1), .double mi, .ref (am 2), .ref (am 3), .ref (am 4), .int (nI nf), .ref (am 5), .ref (am 6), .ref (am 7), .ref (am 8), .ref (am 9), .ref (am 10), .ref (am 11), .ref (am 12), .ref (am 13), .ref (am 14), .ref (am 15), .ref (am 16), .ref (am 17), .ref (am 18), .ref (am 19)]))]) (w1 := []) hP hD [] [0] rfl rfl (by decide) (by decide) hk9 hFc hP1 hD1
  generalize H1 = H at hP hS ⊢
  have hP : va_P G vwCl [(om, .inr (4, [.int th, .int sa, .ref (am 0), .ref (am 1), .double mi, .ref (am 2), .ref (am 3), .ref (am 4), .int (nI nf), .ref (am 5), .ref (am 6), .ref (am 7), .ref (am 8), .ref (am 9), .ref (am 10), .ref (am 11), .ref (am 12), .ref (am 13), .ref (am 14), .ref (am 15), .ref (am 16), .ref (am 17), .ref (am 18), .ref (am 19)]))] H := hP
  have hD : va_D A [(om, .inr (4, [.int th, .int sa, .ref (am 0), .ref (am 1), .double mi, .ref (am 2), .ref (am 3), .ref (am 4), .int (nI nf), .ref (am 5), .ref (am 6), .ref (am 7), .ref (am 8), .ref (am 9), .ref (am 10), .ref (am 11), .ref (am 12), .ref (am 13), .ref (am 14), .ref (am 15), .ref (am 16), .ref (am 17), .ref (am 18), .ref (am 19)]))] := hD
  by_cases ci11 : 0 ≤ xa ∧ xa ≤ 1000
  rotate_left
  · skip
    obtain rfl : ri9 = 0 := hw.trans (if_neg ci11)
    refine lv_if_eq (tgt := 42) hx hb dX4_watch_25 (by decide) (fun _ => ?_) (fun h => absurd (by decide) h)
    refine lv_iconst (v := 2) hx hb dX4_watch_42 (by decide) ?_
    have hPc := hP.sub (ws' := [(om, .inr (4, [.int th, .int sa, .ref (am 0), .ref (am 1), .double mi, .ref (am 2), .ref (am 3), .ref (am 4), .int (nI nf), .ref (am 5), .ref (am 6), .ref (am 7), .ref (am 8), .ref (am 9), .ref (am 10), .ref (am 11), .ref (am 12), .ref (am 13), .ref (am 14), .ref (am 15), .ref (am 16), .ref (am 17), .ref (am 18), .ref (am 19)]))]) [0] rfl
    have hDc := hD.sub (ws' := [(om, .inr (4, [.int th, .int sa, .ref (am 0), .ref (am 1), .double mi, .ref (am 2), .ref (am 3), .ref (am 4), .int (nI nf), .ref (am 5), .ref (am 6), .ref (am 7), .ref (am 8), .ref (am 9), .ref (am 10), .ref (am 11), .ref (am 12), .ref (am 13), .ref (am 14), .ref (am 15), .ref (am 16), .ref (am 17), .ref (am 18), .ref (am 19)]))]) [0] (by decide) rfl
    have hFc := va_free (wc := [(om, .inr (4, [.int th, .int sa, .ref (am 0), .ref (am 1), .double mi, .ref (am 2), .ref (am 3), .ref (am 4), .int (nI nf), .ref (am 5), .ref (am 6), .ref (am 7), .ref (am 8), .ref (am 9), .ref (am 10), .ref (am 11), .ref (am 12), .ref (am 13), .ref (am 14), .ref (am 15), .ref (am 16), .ref (am 17), .ref (am 18), .ref (am 19)]))]) hD hS hA [0] rfl
    refine va_calli (va_runV (As := [.int 2]) (rest := []) ⟨hx, hb, hml, hown, hts⟩ (m_X4_goesWell l G q H.size om am th sa (nI nf) mi 2) (cwV 1 hts gX4_watch_X4_goesWell rfl rfl rfl (by decide +kernel) ⟨Nat.le_of_ble_eq_true rfl, Nat.le_of_ble_eq_true rfl⟩) ⟨preW_blind, (va_recv hK hPc (ci := 4) (q0 := 0) rfl rfl), preW_start hPc hK hDc hNF⟩ rfl rfl hl.1 rfl (lv_room (Nat.le_of_ble_eq_true rfl)) dX4_watch_43 ⟨(Nat.zero_le _), (Nat.zero_le _)⟩) hS (fun q _ h => hFc q h) hFc (fun gr13 u9 t9 H1 locs ht9 hv9 hw hB9 hz9 hk9 hS => ?_)
    obtain ⟨⟩ := u9
    obtain ⟨hP1, hD1⟩ := hB9
    rw [ht9] at hP1
    obtain ⟨hP, hD⟩ := va_join (wr := []) (w1 := [(om, .inr (4, [.int 2, .int sa, .ref (am 0), .ref (am 1), .double mi, .ref (am 2), .ref (am 3), .ref (am 4), .int (nI nf), .ref (am 5), .ref (am 6), .ref (am 7), .ref (am 8), .ref (am 9), .ref (am 10), .ref (am 11), .ref (am 12), .ref (am 13), .ref (am 14), .ref (am 15), .ref (am 16), .ref (am 17), .ref (am 18), .ref (am 19)]))]) hP hD [0] [] rfl rfl (by decide) (by decide) hk9 hFc hP1 hD1
    generalize H1 = H at hP hS ⊢
    have hP : va_P G vwCl [(om, .inr (4, [.int 2, .int sa, .ref (am 0), .ref (am 1), .double mi, .ref (am 2), .ref (am 3), .ref (am 4), .int (nI nf), .ref (am 5), .ref (am 6), .ref (am 7), .ref (am 8), .ref (am 9), .ref (am 10), .ref (am 11), .ref (am 12), .ref (am 13), .ref (am 14), .ref (am 15), .ref (am 16), .ref (am 17), .ref (am 18), .ref (am 19)]))] H := hP
    have hD : va_D A [(om, .inr (4, [.int 2, .int sa, .ref (am 0), .ref (am 1), .double mi, .ref (am 2), .ref (am 3), .ref (am 4), .int (nI nf), .ref (am 5), .ref (am 6), .ref (am 7), .ref (am 8), .ref (am 9), .ref (am 10), .ref (am 11), .ref (am 12), .ref (am 13), .ref (am 14), .ref (am 15), .ref (am 16), .ref (am 17), .ref (am 18), .ref (am 19)]))] := hD
    obtain rfl : gr13 = 0 := hw.trans (by decide)
    refine lv_if_eq (tgt := 63) hx hb dX4_watch_46 (by decide) (fun _ => ?_) (fun h => absurd (by decide) h)
    have hP9 := hP
    have hD9 := hD
    exact W.vret hx hb hr (fun t ht hW => ⟨⟨2, rfl, by dsimp only; unfold watchC; rw [if_pos ci3, if_neg ci11], by rw [ht]; exact hP9, hD9⟩, hS.F ht⟩) hS.2.2 dX4_watch_63
  obtain rfl : ri9 = 1 := hw.trans (if_pos ci11)
  refine lv_if_eq (tgt := 42) hx hb dX4_watch_25 (by decide) (fun h => absurd h (by decide)) (fun _ => ?_)
  refine lv_iload_n hx hb dX4_watch_28 rfl (lv_at hl 4 rfl) ?_
  refine lv_iconst (v := 0) hx hb dX4_watch_29 (by decide) ?_
  refine lv_bipush (v := 20) hx hb dX4_watch_30 (by decide) ?_
  have hPc := hP.sub (ws' := []) [] rfl
  have hDc := hD.sub (ws' := []) [] (by decide) rfl
  have hFc := va_free (wc := []) hD hS hA [] rfl
  refine va_calli (va_runS (As := [.int xb, .int 0, .int 20]) (rest := [.ref om]) ⟨hx, hb, hml, hown, hts⟩ (m_X4_in l G q H.size xb 0 20) (va_cwS 3 hts gX4_watch_X4_in rfl rfl rfl (by decide +kernel) ⟨Nat.le_of_ble_eq_true rfl, Nat.le_of_ble_eq_true rfl⟩) ⟨preW_blind, preW_start hPc hK hDc hNF⟩ rfl rfl hl.1 rfl (lv_room (Nat.le_of_ble_eq_true rfl)) dX4_watch_32 ⟨(Nat.zero_le _), (Nat.zero_le _)⟩) hS (fun q _ h => hFc q h) hFc (fun ri17 u9 t9 H1 locs ht9 hv9 hw hB9 hz9 hk9 hS => ?_)
  obtain ⟨⟩ := u9
  obtain ⟨hP1, hD1⟩ := hB9
  rw [ht9] at hP1
  obtain ⟨hP, hD⟩ := va_join (wr := [(om, .inr (4, [.int th, .int sa, .ref (am 0), .ref (am 1), .double mi, .ref (am 2), .ref (am 3), .ref (am 4), .int (nI nf), .ref (am 5), .ref (am 6), .ref (am 7), .ref (am 8), .ref (am 9), .ref (am 10), .ref (am 11), .ref (am 12), .ref (am 13), .ref (am 14), .ref (am 15), .ref (am 16), .ref (am 17), .ref (am 18), .ref (am 19)]))]) (w1 := []) hP hD [] [0] rfl rfl (by decide) (by decide) hk9 hFc hP1 hD1
  generalize H1 = H at hP hS ⊢
  have hP : va_P G vwCl [(om, .inr (4, [.int th, .int sa, .ref (am 0), .ref (am 1), .double mi, .ref (am 2), .ref (am 3), .ref (am 4), .int (nI nf), .ref (am 5), .ref (am 6), .ref (am 7), .ref (am 8), .ref (am 9), .ref (am 10), .ref (am 11), .ref (am 12), .ref (am 13), .ref (am 14), .ref (am 15), .ref (am 16), .ref (am 17), .ref (am 18), .ref (am 19)]))] H := hP
  have hD : va_D A [(om, .inr (4, [.int th, .int sa, .ref (am 0), .ref (am 1), .double mi, .ref (am 2), .ref (am 3), .ref (am 4), .int (nI nf), .ref (am 5), .ref (am 6), .ref (am 7), .ref (am 8), .ref (am 9), .ref (am 10), .ref (am 11), .ref (am 12), .ref (am 13), .ref (am 14), .ref (am 15), .ref (am 16), .ref (am 17), .ref (am 18), .ref (am 19)]))] := hD
  by_cases ci19 : 0 ≤ xb ∧ xb ≤ 20
  · skip
    exact absurd (by unfold watchC; rw [if_pos ci3, if_pos ci11, if_pos ci19]) hc
  obtain rfl : ri17 = 0 := hw.trans (if_neg ci19)
  refine lv_if_eq (tgt := 42) hx hb dX4_watch_35 (by decide) (fun _ => ?_) (fun h => absurd (by decide) h)
  refine lv_iconst (v := 2) hx hb dX4_watch_42 (by decide) ?_
  have hPc := hP.sub (ws' := [(om, .inr (4, [.int th, .int sa, .ref (am 0), .ref (am 1), .double mi, .ref (am 2), .ref (am 3), .ref (am 4), .int (nI nf), .ref (am 5), .ref (am 6), .ref (am 7), .ref (am 8), .ref (am 9), .ref (am 10), .ref (am 11), .ref (am 12), .ref (am 13), .ref (am 14), .ref (am 15), .ref (am 16), .ref (am 17), .ref (am 18), .ref (am 19)]))]) [0] rfl
  have hDc := hD.sub (ws' := [(om, .inr (4, [.int th, .int sa, .ref (am 0), .ref (am 1), .double mi, .ref (am 2), .ref (am 3), .ref (am 4), .int (nI nf), .ref (am 5), .ref (am 6), .ref (am 7), .ref (am 8), .ref (am 9), .ref (am 10), .ref (am 11), .ref (am 12), .ref (am 13), .ref (am 14), .ref (am 15), .ref (am 16), .ref (am 17), .ref (am 18), .ref (am 19)]))]) [0] (by decide) rfl
  have hFc := va_free (wc := [(om, .inr (4, [.int th, .int sa, .ref (am 0), .ref (am 1), .double mi, .ref (am 2), .ref (am 3), .ref (am 4), .int (nI nf), .ref (am 5), .ref (am 6), .ref (am 7), .ref (am 8), .ref (am 9), .ref (am 10), .ref (am 11), .ref (am 12), .ref (am 13), .ref (am 14), .ref (am 15), .ref (am 16), .ref (am 17), .ref (am 18), .ref (am 19)]))]) hD hS hA [0] rfl
  refine va_calli (va_runV (As := [.int 2]) (rest := []) ⟨hx, hb, hml, hown, hts⟩ (m_X4_goesWell l G q H.size om am th sa (nI nf) mi 2) (cwV 1 hts gX4_watch_X4_goesWell rfl rfl rfl (by decide +kernel) ⟨Nat.le_of_ble_eq_true rfl, Nat.le_of_ble_eq_true rfl⟩) ⟨preW_blind, (va_recv hK hPc (ci := 4) (q0 := 0) rfl rfl), preW_start hPc hK hDc hNF⟩ rfl rfl hl.1 rfl (lv_room (Nat.le_of_ble_eq_true rfl)) dX4_watch_43 ⟨(Nat.zero_le _), (Nat.zero_le _)⟩) hS (fun q _ h => hFc q h) hFc (fun gr21 u9 t9 H1 locs ht9 hv9 hw hB9 hz9 hk9 hS => ?_)
  obtain ⟨⟩ := u9
  obtain ⟨hP1, hD1⟩ := hB9
  rw [ht9] at hP1
  obtain ⟨hP, hD⟩ := va_join (wr := []) (w1 := [(om, .inr (4, [.int 2, .int sa, .ref (am 0), .ref (am 1), .double mi, .ref (am 2), .ref (am 3), .ref (am 4), .int (nI nf), .ref (am 5), .ref (am 6), .ref (am 7), .ref (am 8), .ref (am 9), .ref (am 10), .ref (am 11), .ref (am 12), .ref (am 13), .ref (am 14), .ref (am 15), .ref (am 16), .ref (am 17), .ref (am 18), .ref (am 19)]))]) hP hD [0] [] rfl rfl (by decide) (by decide) hk9 hFc hP1 hD1
  generalize H1 = H at hP hS ⊢
  have hP : va_P G vwCl [(om, .inr (4, [.int 2, .int sa, .ref (am 0), .ref (am 1), .double mi, .ref (am 2), .ref (am 3), .ref (am 4), .int (nI nf), .ref (am 5), .ref (am 6), .ref (am 7), .ref (am 8), .ref (am 9), .ref (am 10), .ref (am 11), .ref (am 12), .ref (am 13), .ref (am 14), .ref (am 15), .ref (am 16), .ref (am 17), .ref (am 18), .ref (am 19)]))] H := hP
  have hD : va_D A [(om, .inr (4, [.int 2, .int sa, .ref (am 0), .ref (am 1), .double mi, .ref (am 2), .ref (am 3), .ref (am 4), .int (nI nf), .ref (am 5), .ref (am 6), .ref (am 7), .ref (am 8), .ref (am 9), .ref (am 10), .ref (am 11), .ref (am 12), .ref (am 13), .ref (am 14), .ref (am 15), .ref (am 16), .ref (am 17), .ref (am 18), .ref (am 19)]))] := hD
  obtain rfl : gr21 = 0 := hw.trans (by decide)
  refine lv_if_eq (tgt := 63) hx hb dX4_watch_46 (by decide) (fun _ => ?_) (fun h => absurd (by decide) h)
  have hP9 := hP
  have hD9 := hD
  exact W.vret hx hb hr (fun t ht hW => ⟨⟨2, rfl, by dsimp only; unfold watchC; rw [if_pos ci3, if_pos ci11, if_neg ci19], by rw [ht]; exact hP9, hD9⟩, hS.F ht⟩) hS.2.2 dX4_watch_63

theorem in_X4_watch_X4 : ∀ w ∈ wsX40, w ∈ wsX4_watch := by decide +kernel
set_option maxHeartbeats 4000000 in
set_option maxRecDepth 100000 in
/-- watch: where it goes well -/
theorem m_X4_watch (l : Launch) (G : va_G) (q : Nat → ClassId) (sz : Nat) (om : Nat) (am : Nat → Nat) (th sa : Int32) (mi : UInt64) (nf : Nat) (fx : Nat) (xa xb : Int32) (Wi Ai : Nat → Int32) (hnf : nf ≤ 6) (hfx : fx < nf) (ha : 0 ≤ xa ∧ xa ≤ 1000) (hb1 : 0 ≤ xb ∧ xb ≤ 20) : Met l yX4_watch wsX4_watch ({ frames := 2, cells := 0, slots := 0, locals := 43 } : Jvm.Room) (PreW G q [.ref om, .int (nI fx), .int xa, .int xb] [(om, .inr (4, [.int th, .int sa, .ref (am 0), .ref (am 1), .double mi, .ref (am 2), .ref (am 3), .ref (am 4), .int (nI nf), .ref (am 5), .ref (am 6), .ref (am 7), .ref (am 8), .ref (am 9), .ref (am 10), .ref (am 11), .ref (am 12), .ref (am 13), .ref (am 14), .ref (am 15), .ref (am 16), .ref (am 17), .ref (am 18), .ref (am 19)])), ((am 8), aI q 6 Wi), ((am 9), aI q 6 Ai)] sz) (va_Qv (fun (_ : Unit) => True) (fun (_ : Unit) t => EndA G (va_A [(om, .inr (4, [.int th, .int sa, .ref (am 0), .ref (am 1), .double mi, .ref (am 2), .ref (am 3), .ref (am 4), .int (nI nf), .ref (am 5), .ref (am 6), .ref (am 7), .ref (am 8), .ref (am 9), .ref (am 10), .ref (am 11), .ref (am 12), .ref (am 13), .ref (am 14), .ref (am 15), .ref (am 16), .ref (am 17), .ref (am 18), .ref (am 19)])), ((am 8), aI q 6 Wi), ((am 9), aI q 6 Ai)] sz) [(om, .inr (4, [.int 0, .int sa, .ref (am 0), .ref (am 1), .double mi, .ref (am 2), .ref (am 3), .ref (am 4), .int (nI nf), .ref (am 5), .ref (am 6), .ref (am 7), .ref (am 8), .ref (am 9), .ref (am 10), .ref (am 11), .ref (am 12), .ref (am 13), .ref (am 14), .ref (am 15), .ref (am 16), .ref (am 17), .ref (am 18), .ref (am 19)])), ((am 8), aI q 6 (vf_upd Wi fx xa)), ((am 9), aI q 6 (vf_upd Ai fx xb))] t) (va_A [(om, .inr (4, [.int th, .int sa, .ref (am 0), .ref (am 1), .double mi, .ref (am 2), .ref (am 3), .ref (am 4), .int (nI nf), .ref (am 5), .ref (am 6), .ref (am 7), .ref (am 8), .ref (am 9), .ref (am 10), .ref (am 11), .ref (am 12), .ref (am 13), .ref (am 14), .ref (am 15), .ref (am 16), .ref (am 17), .ref (am 18), .ref (am 19)])), ((am 8), aI q 6 Wi), ((am 9), aI q 6 Ai)] sz)) 0 0 (va_A [(om, .inr (4, [.int th, .int sa, .ref (am 0), .ref (am 1), .double mi, .ref (am 2), .ref (am 3), .ref (am 4), .int (nI nf), .ref (am 5), .ref (am 6), .ref (am 7), .ref (am 8), .ref (am 9), .ref (am 10), .ref (am 11), .ref (am 12), .ref (am 13), .ref (am 14), .ref (am 15), .ref (am 16), .ref (am 17), .ref (am 18), .ref (am 19)])), ((am 8), aI q 6 Wi), ((am 9), aI q 6 Ai)] sz) := by
  refine Met.ofW (cc := cX4_watch) (maxL := 5) (ret := none) (by decide +kernel) rfl ?_
  intro p e s m args below meth c s₁ B hml hv
  obtain ⟨rfl, hsz, hP, hK, hD0, hNF⟩ := hv
  have hx := B.exec
  have hb := B.bytes
  have hr := B.returns
  have hts := atoms_spec (ws := wsX4_watch) B.pre
  have hown : s.vm.findClass RX4 = some m.cls := findClass_of_methodNamed B.named
  have hlocks := B.notSynchronized
  subst hsz
  have hD := hD0.self (sz := s.heap.size)
  generalize hAe : va_A [(om, .inr (4, [.int th, .int sa, .ref (am 0), .ref (am 1), .double mi, .ref (am 2), .ref (am 3), .ref (am 4), .int (nI nf), .ref (am 5), .ref (am 6), .ref (am 7), .ref (am 8), .ref (am 9), .ref (am 10), .ref (am 11), .ref (am 12), .ref (am 13), .ref (am 14), .ref (am 15), .ref (am 16), .ref (am 17), .ref (am 18), .ref (am 19)])), ((am 8), aI q 6 Wi), ((am 9), aI q 6 Ai)] s.heap.size = A at hD ⊢
  have hA : ∀ q : Nat, s.heap.size ≤ q → A q := fun q h => by rw [← hAe]; exact Or.inr h
  have hS : va_S A s.heap s.heap [] := va_S.rf
  have hP : va_P G vwCl [(om, .inr (4, [.int th, .int sa, .ref (am 0), .ref (am 1), .double mi, .ref (am 2), .ref (am 3), .ref (am 4), .int (nI nf), .ref (am 5), .ref (am 6), .ref (am 7), .ref (am 8), .ref (am 9), .ref (am 10), .ref (am 11), .ref (am 12), .ref (am 13), .ref (am 14), .ref (am 15), .ref (am 16), .ref (am 17), .ref (am 18), .ref (am 19)])), ((am 8), aI q 6 Wi), ((am 9), aI q 6 Ai)] s.heap := hP
  have hl := lv_entry ([.ref om, .int (nI fx), .int xa, .int xb]) (n := 5) (Nat.le_of_ble_eq_true rfl)
  rw [lg_entry_eq]
  generalize (lg_sl ([.ref om, .int (nI fx), .int xa, .int xb]) ++ List.replicate (5 - (lg_sl ([.ref om, .int (nI fx), .int xa, .int xb])).length) Slot.unset).toArray = ls at hl ⊢
  have hl : lv_has ls 5 [(0, .ref om), (1, .int (nI fx)), (2, .int xa), (3, .int xb)] := hl
  refine lv_aload_n hx hb dX4_watch_0 rfl (lv_at hl 0 rfl) ?_
  refine lv_iload_n hx hb dX4_watch_1 rfl (lv_at hl 1 rfl) ?_
  have hPc := hP.sub (ws' := [(om, .inr (4, [.int th, .int sa, .ref (am 0), .ref (am 1), .double mi, .ref (am 2), .ref (am 3), .ref (am 4), .int (nI nf), .ref (am 5), .ref (am 6), .ref (am 7), .ref (am 8), .ref (am 9), .ref (am 10), .ref (am 11), .ref (am 12), .ref (am 13), .ref (am 14), .ref (am 15), .ref (am 16), .ref (am 17), .ref (am 18), .ref (am 19)]))]) [0] rfl
  have hDc := hD.sub (ws' := [(om, .inr (4, [.int th, .int sa, .ref (am 0), .ref (am 1), .double mi, .ref (am 2), .ref (am 3), .ref (am 4), .int (nI nf), .ref (am 5), .ref (am 6), .ref (am 7), .ref (am 8), .ref (am 9), .ref (am 10), .ref (am 11), .ref (am 12), .ref (am 13), .ref (am 14), .ref (am 15), .ref (am 16), .ref (am 17), .ref (am 18), .ref (am 19)]))]) [0] (by decide) rfl
  have hFc := va_free (wc := [(om, .inr (4, [.int th, .int sa, .ref (am 0), .ref (am 1), .double mi, .ref (am 2), .ref (am 3), .ref (am 4), .int (nI nf), .ref (am 5), .ref (am 6), .ref (am 7), .ref (am 8), .ref (am 9), .ref (am 10), .ref (am 11), .ref (am 12), .ref (am 13), .ref (am 14), .ref (am 15), .ref (am 16), .ref (am 17), .ref (am 18), .ref (am 19)]))]) hD hS hA [0] rfl
  refine va_calli (va_runV (As := [.int (nI fx)]) (rest := []) ⟨hx, hb, hml, hown, hts⟩ (m_X4_isFilter l G q s.heap.size om am th sa (nI nf) mi (nI fx)) (cwV 1 hts gX4_watch_X4_isFilter rfl rfl rfl (by decide +kernel) ⟨Nat.le_of_ble_eq_true rfl, Nat.le_of_ble_eq_true rfl⟩) ⟨preW_blind, (va_recv hK hPc (ci := 4) (q0 := 0) rfl rfl), preW_start hPc hK hDc hNF⟩ rfl rfl hl.1 rfl (lv_room (Nat.le_of_ble_eq_true rfl)) dX4_watch_2 ⟨(Nat.zero_le _), (Nat.zero_le _)⟩) hS (fun q _ h => hFc q h) hFc (fun rf1 u9 t9 H1 locs ht9 hv9 hw hB9 hz9 hk9 hS => ?_)
  obtain ⟨⟩ := u9
  obtain ⟨hP1, hD1⟩ := hB9
  rw [ht9] at hP1
  obtain ⟨hP, hD⟩ := va_join (wr := [((am 8), aI q 6 Wi), ((am 9), aI q 6 Ai)]) (w1 := [(om, .inr (4, [.int th, .int sa, .ref (am 0), .ref (am 1), .double mi, .ref (am 2), .ref (am 3), .ref (am 4), .int (nI nf), .ref (am 5), .ref (am 6), .ref (am 7), .ref (am 8), .ref (am 9), .ref (am 10), .ref (am 11), .ref (am 12), .ref (am 13), .ref (am 14), .ref (am 15), .ref (am 16), .ref (am 17), .ref (am 18), .ref (am 19)]))]) hP hD [0] [1, 2] rfl rfl (by decide) (by decide) hk9 hFc hP1 hD1
  generalize H1 = H at hP hS ⊢
  have hP : va_P G vwCl [((am 8), aI q 6 Wi), ((am 9), aI q 6 Ai), (om, .inr (4, [.int th, .int sa, .ref (am 0), .ref (am 1), .double mi, .ref (am 2), .ref (am 3), .ref (am 4), .int (nI nf), .ref (am 5), .ref (am 6), .ref (am 7), .ref (am 8), .ref (am 9), .ref (am 10), .ref (am 11), .ref (am 12), .ref (am 13), .ref (am 14), .ref (am 15), .ref (am 16), .ref (am 17), .ref (am 18), .ref (am 19)]))] H := hP
  have hD : va_D A [((am 8), aI q 6 Wi), ((am 9), aI q 6 Ai), (om, .inr (4, [.int th, .int sa, .ref (am 0), .ref (am 1), .double mi, .ref (am 2), .ref (am 3), .ref (am 4), .int (nI nf), .ref (am 5), .ref (am 6), .ref (am 7), .ref (am 8), .ref (am 9), .ref (am 10), .ref (am 11), .ref (am 12), .ref (am 13), .ref (am 14), .ref (am 15), .ref (am 16), .ref (am 17), .ref (am 18), .ref (am 19)]))] := hD
  obtain rfl : rf1 = 1 := hw.trans (if_pos (m1_in (by omega) hfx))
  refine lv_istore (lv' := [(4, .int 1), (0, .ref om), (1, .int (nI fx)), (2, .int xa), (3, .int xb)]) hx hb dX4_watch_5 hl (by decide) rfl (fun ls hl => ?_)
  refine lv_aload_n hx hb dX4_watch_7 rfl (lv_at hl 1 rfl) ?_
  refine lv_iload hx hb dX4_watch_8 (lv_at hl 0 rfl) ?_
  refine lv_if_ne (tgt := 17) hx hb dX4_watch_10 (by decide) (fun _ => ?_) (fun h => absurd h (by decide))
  refine lv_iload_n hx hb dX4_watch_17 rfl (lv_at hl 3 rfl) ?_
  refine lv_iconst (v := 0) hx hb dX4_watch_18 (by decide) ?_
  refine lv_sipush (v := 1000) hx hb dX4_watch_19 (by decide) ?_
  have hPc := hP.sub (ws' := []) [] rfl
  have hDc := hD.sub (ws' := []) [] (by decide) rfl
  have hFc := va_free (wc := []) hD hS hA [] rfl
  refine va_calli (va_runS (As := [.int xa, .int 0, .int 1000]) (rest := [.ref om]) ⟨hx, hb, hml, hown, hts⟩ (m_X4_in l G q H.size xa 0 1000) (va_cwS 3 hts gX4_watch_X4_in rfl rfl rfl (by decide +kernel) ⟨Nat.le_of_ble_eq_true rfl, Nat.le_of_ble_eq_true rfl⟩) ⟨preW_blind, preW_start hPc hK hDc hNF⟩ rfl rfl hl.1 rfl (lv_room (Nat.le_of_ble_eq_true rfl)) dX4_watch_22 ⟨(Nat.zero_le _), (Nat.zero_le _)⟩) hS (fun q _ h => hFc q h) hFc (fun ri4 u9 t9 H1 locs ht9 hv9 hw hB9 hz9 hk9 hS => ?_)
  obtain ⟨⟩ := u9
  obtain ⟨hP1, hD1⟩ := hB9
  rw [ht9] at hP1
  obtain ⟨hP, hD⟩ := va_join (wr := [((am 8), aI q 6 Wi), ((am 9), aI q 6 Ai), (om, .inr (4, [.int th, .int sa, .ref (am 0), .ref (am 1), .double mi, .ref (am 2), .ref (am 3), .ref (am 4), .int (nI nf), .ref (am 5), .ref (am 6), .ref (am 7), .ref (am 8), .ref (am 9), .ref (am 10), .ref (am 11), .ref (am 12), .ref (am 13), .ref (am 14), .ref (am 15), .ref (am 16), .ref (am 17), .ref (am 18), .ref (am 19)]))]) (w1 := []) hP hD [] [0, 1, 2] rfl rfl (by decide) (by decide) hk9 hFc hP1 hD1
  generalize H1 = H at hP hS ⊢
  have hP : va_P G vwCl [((am 8), aI q 6 Wi), ((am 9), aI q 6 Ai), (om, .inr (4, [.int th, .int sa, .ref (am 0), .ref (am 1), .double mi, .ref (am 2), .ref (am 3), .ref (am 4), .int (nI nf), .ref (am 5), .ref (am 6), .ref (am 7), .ref (am 8), .ref (am 9), .ref (am 10), .ref (am 11), .ref (am 12), .ref (am 13), .ref (am 14), .ref (am 15), .ref (am 16), .ref (am 17), .ref (am 18), .ref (am 19)]))] H := hP
  have hD : va_D A [((am 8), aI q 6 Wi), ((am 9), aI q 6 Ai), (om, .inr (4, [.int th, .int sa, .ref (am 0), .ref (am 1), .double mi, .ref (am 2), .ref (am 3), .ref (am 4), .int (nI nf), .ref (am 5), .ref (am 6), .ref (am 7), .ref (am 8), .ref (am 9), .ref (am 10), .ref (am 11), .ref (am 12), .ref (am 13), .ref (am 14), .ref (am 15), .ref (am 16), .ref (am 17), .ref (am 18), .ref (am 19)]))] := hD
  obtain rfl : ri4 = 1 := hw.trans (if_pos ha)
  refine lv_if_eq (tgt := 42) hx hb dX4_watch_25 (by decide) (fun h => absurd h (by decide)) (fun _ => ?_)
  refine lv_iload_n hx hb dX4_watch_28 rfl (lv_at hl 4 rfl) ?_
  refine lv_iconst (v := 0) hx hb dX4_watch_29 (by decide) ?_
  refine lv_bipush (v := 20) hx hb dX4_watch_30 (by decide) ?_
  have hPc := hP.sub (ws' := []) [] rfl
  have hDc := hD.sub (ws' := []) [] (by decide) rfl
  have hFc := va_free (wc := []) hD hS hA [] rfl
  refine va_calli (va_runS (As := [.int xb, .int 0, .int 20]) (rest := [.ref om]) ⟨hx, hb, hml, hown, hts⟩ (m_X4_in l G q H.size xb 0 20) (va_cwS 3 hts gX4_watch_X4_in rfl rfl rfl (by decide +kernel) ⟨Nat.le_of_ble_eq_true rfl, Nat.le_of_ble_eq_true rfl⟩) ⟨preW_blind, preW_start hPc hK hDc hNF⟩ rfl rfl hl.1 rfl (lv_room (Nat.le_of_ble_eq_true rfl)) dX4_watch_32 ⟨(Nat.zero_le _), (Nat.zero_le _)⟩) hS (fun q _ h => hFc q h) hFc (fun ri7 u9 t9 H1 locs ht9 hv9 hw hB9 hz9 hk9 hS => ?_)
  obtain ⟨⟩ := u9
  obtain ⟨hP1, hD1⟩ := hB9
  rw [ht9] at hP1
  obtain ⟨hP, hD⟩ := va_join (wr := [((am 8), aI q 6 Wi), ((am 9), aI q 6 Ai), (om, .inr (4, [.int th, .int sa, .ref (am 0), .ref (am 1), .double mi, .ref (am 2), .ref (am 3), .ref (am 4), .int (nI nf), .ref (am 5), .ref (am 6), .ref (am 7), .ref (am 8), .ref (am 9), .ref (am 10), .ref (am 11), .ref (am 12), .ref (am 13), .ref (am 14), .ref (am 15), .ref (am 16), .ref (am 17), .ref (am 18), .ref (am 19)]))]) (w1 := []) hP hD [] [0, 1, 2] rfl rfl (by decide) (by decide) hk9 hFc hP1 hD1
  generalize H1 = H at hP hS ⊢
  have hP : va_P G vwCl [((am 8), aI q 6 Wi), ((am 9), aI q 6 Ai), (om, .inr (4, [.int th, .int sa, .ref (am 0), .ref (am 1), .double mi, .ref (am 2), .ref (am 3), .ref (am 4), .int (nI nf), .ref (am 5), .ref (am 6), .ref (am 7), .ref (am 8), .ref (am 9), .ref (am 10), .ref (am 11), .ref (am 12), .ref (am 13), .ref (am 14), .ref (am 15), .ref (am 16), .ref (am 17), .ref (am 18), .ref (am 19)]))] H := hP
  have hD : va_D A [((am 8), aI q 6 Wi), ((am 9), aI q 6 Ai), (om, .inr (4, [.int th, .int sa, .ref (am 0), .ref (am 1), .double mi, .ref (am 2), .ref (am 3), .ref (am 4), .int (nI nf), .ref (am 5), .ref (am 6), .ref (am 7), .ref (am 8), .ref (am 9), .ref (am 10), .ref (am 11), .ref (am 12), .ref (am 13), .ref (am 14), .ref (am 15), .ref (am 16), .ref (am 17), .ref (am 18), .ref (am 19)]))] := hD
  obtain rfl : ri7 = 1 := hw.trans (if_pos hb1)
  refine lv_if_eq (tgt := 42) hx hb dX4_watch_35 (by decide) (fun h => absurd h (by decide)) (fun _ => ?_)
  refine lv_iconst (v := 0) hx hb dX4_watch_38 (by decide) ?_
  refine lv_goto (tgt := 43) hx hb dX4_watch_39 (by decide) ?_
  have hPc := hP.sub (ws' := [(om, .inr (4, [.int th, .int sa, .ref (am 0), .ref (am 1), .double mi, .ref (am 2), .ref (am 3), .ref (am 4), .int (nI nf), .ref (am 5), .ref (am 6), .ref (am 7), .ref (am 8), .ref (am 9), .ref (am 10), .ref (am 11), .ref (am 12), .ref (am 13), .ref (am 14), .ref (am 15), .ref (am 16), .ref (am 17), .ref (am 18), .ref (am 19)]))]) [2] rfl
  have hDc := hD.sub (ws' := [(om, .inr (4, [.int th, .int sa, .ref (am 0), .ref (am 1), .double mi, .ref (am 2), .ref (am 3), .ref (am 4), .int (nI nf), .ref (am 5), .ref (am 6), .ref (am 7), .ref (am 8), .ref (am 9), .ref (am 10), .ref (am 11), .ref (am 12), .ref (am 13), .ref (am 14), .ref (am 15), .ref (am 16), .ref (am 17), .ref (am 18), .ref (am 19)]))]) [2] (by decide) rfl
  have hFc := va_free (wc := [(om, .inr (4, [.int th, .int sa, .ref (am 0), .ref (am 1), .double mi, .ref (am 2), .ref (am 3), .ref (am 4), .int (nI nf), .ref (am 5), .ref (am 6), .ref (am 7), .ref (am 8), .ref (am 9), .ref (am 10), .ref (am 11), .ref (am 12), .ref (am 13), .ref (am 14), .ref (am 15), .ref (am 16), .ref (am 17), .ref (am 18), .ref (am 19)]))]) hD hS hA [2] rfl
  refine va_calli (va_runV (As := [.int 0]) (rest := []) ⟨hx, hb, hml, hown, hts⟩ (m_X4_goesWell l G q H.size om am th sa (nI nf) mi 0) (cwV 1 hts gX4_watch_X4_goesWell rfl rfl rfl (by decide +kernel) ⟨Nat.le_of_ble_eq_true rfl, Nat.le_of_ble_eq_true rfl⟩) ⟨preW_blind, (va_recv hK hPc (ci := 4) (q0 := 0) rfl rfl), preW_start hPc hK hDc hNF⟩ rfl rfl hl.1 rfl (lv_room (Nat.le_of_ble_eq_true rfl)) dX4_watch_43 ⟨(Nat.zero_le _), (Nat.zero_le _)⟩) hS (fun q _ h => hFc q h) hFc (fun gr10 u9 t9 H1 locs ht9 hv9 hw hB9 hz9 hk9 hS => ?_)
  obtain ⟨⟩ := u9
  obtain ⟨hP1, hD1⟩ := hB9
  rw [ht9] at hP1
  obtain ⟨hP, hD⟩ := va_join (wr := [((am 8), aI q 6 Wi), ((am 9), aI q 6 Ai)]) (w1 := [(om, .inr (4, [.int 0, .int sa, .ref (am 0), .ref (am 1), .double mi, .ref (am 2), .ref (am 3), .ref (am 4), .int (nI nf), .ref (am 5), .ref (am 6), .ref (am 7), .ref (am 8), .ref (am 9), .ref (am 10), .ref (am 11), .ref (am 12), .ref (am 13), .ref (am 14), .ref (am 15), .ref (am 16), .ref (am 17), .ref (am 18), .ref (am 19)]))]) hP hD [2] [0, 1] rfl rfl (by decide) (by decide) hk9 hFc hP1 hD1
  generalize H1 = H at hP hS ⊢
  have hP : va_P G vwCl [((am 8), aI q 6 Wi), ((am 9), aI q 6 Ai), (om, .inr (4, [.int 0, .int sa, .ref (am 0), .ref (am 1), .double mi, .ref (am 2), .ref (am 3), .ref (am 4), .int (nI nf), .ref (am 5), .ref (am 6), .ref (am 7), .ref (am 8), .ref (am 9), .ref (am 10), .ref (am 11), .ref (am 12), .ref (am 13), .ref (am 14), .ref (am 15), .ref (am 16), .ref (am 17), .ref (am 18), .ref (am 19)]))] H := hP
  have hD : va_D A [((am 8), aI q 6 Wi), ((am 9), aI q 6 Ai), (om, .inr (4, [.int 0, .int sa, .ref (am 0), .ref (am 1), .double mi, .ref (am 2), .ref (am 3), .ref (am 4), .int (nI nf), .ref (am 5), .ref (am 6), .ref (am 7), .ref (am 8), .ref (am 9), .ref (am 10), .ref (am 11), .ref (am 12), .ref (am 13), .ref (am 14), .ref (am 15), .ref (am 16), .ref (am 17), .ref (am 18), .ref (am 19)]))] := hD
  obtain rfl : gr10 = 1 := hw.trans (by decide)
  refine lv_if_eq (tgt := 63) hx hb dX4_watch_46 (by decide) (fun h => absurd h (by decide)) (fun _ => ?_)
  refine lv_aload_n hx hb dX4_watch_49 rfl (lv_at hl 1 rfl) ?_
  refine va_get (D := G) (ci := 4) (v := .ref (am 8)) (C := RX4) (T := TX4) (N := 24) hx hb hts in_X4_watch_X4 hown hK hP 2 rfl rfl 12 (by decide) (hts (.fieldLink RX4 35 "EchoBenchModel" "watch" "[I") (by decide +kernel)) (fun _ h9 => h9) rfl dX4_watch_50 ?_
  refine lv_iload_n hx hb dX4_watch_53 rfl (lv_at hl 2 rfl) ?_
  refine lv_iload_n hx hb dX4_watch_54 rfl (lv_at hl 3 rfl) ?_
  refine va_iastJ hx hb hK hP hD hS 0 0 rfl rfl (j := fx) rfl (by omega) (by decide) dX4_watch_55 (fun H locs hP hD hS => ?_)
  have hP : va_P G vwCl [((am 8), aI q 6 (vf_upd Wi fx xa)), ((am 9), aI q 6 Ai), (om, .inr (4, [.int 0, .int sa, .ref (am 0), .ref (am 1), .double mi, .ref (am 2), .ref (am 3), .ref (am 4), .int (nI nf), .ref (am 5), .ref (am 6), .ref (am 7), .ref (am 8), .ref (am 9), .ref (am 10), .ref (am 11), .ref (am 12), .ref (am 13), .ref (am 14), .ref (am 15), .ref (am 16), .ref (am 17), .ref (am 18), .ref (am 19)]))] H := hP
  have hD : va_D A [((am 8), aI q 6 (vf_upd Wi fx xa)), ((am 9), aI q 6 Ai), (om, .inr (4, [.int 0, .int sa, .ref (am 0), .ref (am 1), .double mi, .ref (am 2), .ref (am 3), .ref (am 4), .int (nI nf), .ref (am 5), .ref (am 6), .ref (am 7), .ref (am 8), .ref (am 9), .ref (am 10), .ref (am 11), .ref (am 12), .ref (am 13), .ref (am 14), .ref (am 15), .ref (am 16), .ref (am 17), .ref (am 18), .ref (am 19)]))] := hD
  refine lv_aload_n hx hb dX4_watch_56 rfl (lv_at hl 1 rfl) ?_
  refine va_get (D := G) (ci := 4) (v := .ref (am 9)) (C := RX4) (T := TX4) (N := 24) hx hb hts in_X4_watch_X4 hown hK hP 2 rfl rfl 13 (by decide) (hts (.fieldLink RX4 38 "EchoBenchModel" "tail" "[I") (by decide +kernel)) (fun _ h9 => h9) rfl dX4_watch_57 ?_
  refine lv_iload_n hx hb dX4_watch_60 rfl (lv_at hl 2 rfl) ?_
  refine lv_iload_n hx hb dX4_watch_61 rfl (lv_at hl 4 rfl) ?_
  refine va_iastJ hx hb hK hP hD hS 1 0 rfl rfl (j := fx) rfl (by omega) (by decide) dX4_watch_62 (fun H locs hP hD hS => ?_)
  have hP : va_P G vwCl [((am 8), aI q 6 (vf_upd Wi fx xa)), ((am 9), aI q 6 (vf_upd Ai fx xb)), (om, .inr (4, [.int 0, .int sa, .ref (am 0), .ref (am 1), .double mi, .ref (am 2), .ref (am 3), .ref (am 4), .int (nI nf), .ref (am 5), .ref (am 6), .ref (am 7), .ref (am 8), .ref (am 9), .ref (am 10), .ref (am 11), .ref (am 12), .ref (am 13), .ref (am 14), .ref (am 15), .ref (am 16), .ref (am 17), .ref (am 18), .ref (am 19)]))] H := hP
  have hD : va_D A [((am 8), aI q 6 (vf_upd Wi fx xa)), ((am 9), aI q 6 (vf_upd Ai fx xb)), (om, .inr (4, [.int 0, .int sa, .ref (am 0), .ref (am 1), .double mi, .ref (am 2), .ref (am 3), .ref (am 4), .int (nI nf), .ref (am 5), .ref (am 6), .ref (am 7), .ref (am 8), .ref (am 9), .ref (am 10), .ref (am 11), .ref (am 12), .ref (am 13), .ref (am 14), .ref (am 15), .ref (am 16), .ref (am 17), .ref (am 18), .ref (am 19)]))] := hD
  have hP := hP.sub (ws' := [(om, .inr (4, [.int 0, .int sa, .ref (am 0), .ref (am 1), .double mi, .ref (am 2), .ref (am 3), .ref (am 4), .int (nI nf), .ref (am 5), .ref (am 6), .ref (am 7), .ref (am 8), .ref (am 9), .ref (am 10), .ref (am 11), .ref (am 12), .ref (am 13), .ref (am 14), .ref (am 15), .ref (am 16), .ref (am 17), .ref (am 18), .ref (am 19)])), ((am 8), aI q 6 (vf_upd Wi fx xa)), ((am 9), aI q 6 (vf_upd Ai fx xb))]) [2, 0, 1] rfl
  have hD := hD.sub (ws' := [(om, .inr (4, [.int 0, .int sa, .ref (am 0), .ref (am 1), .double mi, .ref (am 2), .ref (am 3), .ref (am 4), .int (nI nf), .ref (am 5), .ref (am 6), .ref (am 7), .ref (am 8), .ref (am 9), .ref (am 10), .ref (am 11), .ref (am 12), .ref (am 13), .ref (am 14), .ref (am 15), .ref (am 16), .ref (am 17), .ref (am 18), .ref (am 19)])), ((am 8), aI q 6 (vf_upd Wi fx xa)), ((am 9), aI q 6 (vf_upd Ai fx xb))]) [2, 0, 1] (by decide) rfl
  have hP9 := hP
  have hD9 := hD
  exact W.vret hx hb hr (fun t ht hW => ⟨⟨(), rfl, trivial, by rw [ht]; exact hP9, hD9⟩, hS.F ht⟩) hS.2.2 dX4_watch_63

theorem in_X4_feed_X4 : ∀ w ∈ wsX40, w ∈ wsX4_feed := by decide +kernel
set_option maxHeartbeats 4000000 in
set_option maxRecDepth 100000 in
/-- feed: where it throws -/
theorem m_X4_feed_no (l : Launch) (G : va_G) (q : Nat → ClassId) (sz : Nat) (om : Nat) (am : Nat → Nat) (th sa : Int32) (mi : UInt64) (nf : Nat) (xa xb : Int32) (hc : ¬ feedC xa xb sa = 0) : Met l yX4_feed wsX4_feed ({ frames := 1, cells := 0, slots := 0, locals := 22 } : Jvm.Room) (PreW G q [.ref om, .int xa, .int xb] [(om, .inr (4, [.int th, .int sa, .ref (am 0), .ref (am 1), .double mi, .ref (am 2), .ref (am 3), .ref (am 4), .int (nI nf), .ref (am 5), .ref (am 6), .ref (am 7), .ref (am 8), .ref (am 9), .ref (am 10), .ref (am 11), .ref (am 12), .ref (am 13), .ref (am 14), .ref (am 15), .ref (am 16), .ref (am 17), .ref (am 18), .ref (am 19)]))] sz) (va_Qi (fun (_ : Int32) (u : Int32) => u = feedC xa xb sa) (fun (u : Int32) t => EndA G (va_A [(om, .inr (4, [.int th, .int sa, .ref (am 0), .ref (am 1), .double mi, .ref (am 2), .ref (am 3), .ref (am 4), .int (nI nf), .ref (am 5), .ref (am 6), .ref (am 7), .ref (am 8), .ref (am 9), .ref (am 10), .ref (am 11), .ref (am 12), .ref (am 13), .ref (am 14), .ref (am 15), .ref (am 16), .ref (am 17), .ref (am 18), .ref (am 19)]))] sz) [(om, .inr (4, [.int u, .int sa, .ref (am 0), .ref (am 1), .double mi, .ref (am 2), .ref (am 3), .ref (am 4), .int (nI nf), .ref (am 5), .ref (am 6), .ref (am 7), .ref (am 8), .ref (am 9), .ref (am 10), .ref (am 11), .ref (am 12), .ref (am 13), .ref (am 14), .ref (am 15), .ref (am 16), .ref (am 17), .ref (am 18), .ref (am 19)]))] t) (va_A [(om, .inr (4, [.int th, .int sa, .ref (am 0), .ref (am 1), .double mi, .ref (am 2), .ref (am 3), .ref (am 4), .int (nI nf), .ref (am 5), .ref (am 6), .ref (am 7), .ref (am 8), .ref (am 9), .ref (am 10), .ref (am 11), .ref (am 12), .ref (am 13), .ref (am 14), .ref (am 15), .ref (am 16), .ref (am 17), .ref (am 18), .ref (am 19)]))] sz)) 0 0 (va_A [(om, .inr (4, [.int th, .int sa, .ref (am 0), .ref (am 1), .double mi, .ref (am 2), .ref (am 3), .ref (am 4), .int (nI nf), .ref (am 5), .ref (am 6), .ref (am 7), .ref (am 8), .ref (am 9), .ref (am 10), .ref (am 11), .ref (am 12), .ref (am 13), .ref (am 14), .ref (am 15), .ref (am 16), .ref (am 17), .ref (am 18), .ref (am 19)]))] sz) := by
  refine Met.ofW (cc := cX4_feed) (maxL := 4) (ret := (some .int)) (by decide +kernel) rfl ?_
  intro p e s m args below meth c s₁ B hml hv
  obtain ⟨rfl, hsz, hP, hK, hD0, hNF⟩ := hv
  have hx := B.exec
  have hb := B.bytes
  have hr := B.returns
  have hts := atoms_spec (ws := wsX4_feed) B.pre
  have hown : s.vm.findClass RX4 = some m.cls := findClass_of_methodNamed B.named
  have hlocks := B.notSynchronized
  subst hsz
  have hD := hD0.self (sz := s.heap.size)
  generalize hAe : va_A [(om, .inr (4, [.int th, .int sa, .ref (am 0), .ref (am 1), .double mi, .ref (am 2), .ref (am 3), .ref (am 4), .int (nI nf), .ref (am 5), .ref (am 6), .ref (am 7), .ref (am 8), .ref (am 9), .ref (am 10), .ref (am 11), .ref (am 12), .ref (am 13), .ref (am 14), .ref (am 15), .ref (am 16), .ref (am 17), .ref (am 18), .ref (am 19)]))] s.heap.size = A at hD ⊢
  have hA : ∀ q : Nat, s.heap.size ≤ q → A q := fun q h => by rw [← hAe]; exact Or.inr h
  have hS : va_S A s.heap s.heap [] := va_S.rf
  have hP : va_P G vwCl [(om, .inr (4, [.int th, .int sa, .ref (am 0), .ref (am 1), .double mi, .ref (am 2), .ref (am 3), .ref (am 4), .int (nI nf), .ref (am 5), .ref (am 6), .ref (am 7), .ref (am 8), .ref (am 9), .ref (am 10), .ref (am 11), .ref (am 12), .ref (am 13), .ref (am 14), .ref (am 15), .ref (am 16), .ref (am 17), .ref (am 18), .ref (am 19)]))] s.heap := hP
  have hl := lv_entry ([.ref om, .int xa, .int xb]) (n := 4) (Nat.le_of_ble_eq_true rfl)
  rw [lg_entry_eq]
  generalize (lg_sl ([.ref om, .int xa, .int xb]) ++ List.replicate (4 - (lg_sl ([.ref om, .int xa, .int xb])).length) Slot.unset).toArray = ls at hl ⊢
  have hl : lv_has ls 4 [(0, .ref om), (1, .int xa), (2, .int xb)] := hl
  refine lv_iload_n hx hb dX4_feed_0 rfl (lv_at hl 1 rfl) ?_
  refine lv_sipush (v := (-1000)) hx hb dX4_feed_1 (by decide) ?_
  refine lv_sipush (v := 1000) hx hb dX4_feed_4 (by decide) ?_
  have hPc := hP.sub (ws' := []) [] rfl
  have hDc := hD.sub (ws' := []) [] (by decide) rfl
  have hFc := va_free (wc := []) hD hS hA [] rfl
  refine va_calli (va_runS (As := [.int xa, .int (-1000), .int 1000]) (rest := []) ⟨hx, hb, hml, hown, hts⟩ (m_X4_in l G q s.heap.size xa (-1000) 1000) (va_cwS 3 hts gX4_feed_X4_in rfl rfl rfl (by decide +kernel) ⟨Nat.le_of_ble_eq_true rfl, Nat.le_of_ble_eq_true rfl⟩) ⟨preW_blind, preW_start hPc hK hDc hNF⟩ rfl rfl hl.1 rfl (lv_room (Nat.le_of_ble_eq_true rfl)) dX4_feed_7 ⟨(Nat.zero_le _), (Nat.zero_le _)⟩) hS (fun q _ h => hFc q h) hFc (fun ri1 u9 t9 H1 locs ht9 hv9 hw hB9 hz9 hk9 hS => ?_)
  obtain ⟨⟩ := u9
  obtain ⟨hP1, hD1⟩ := hB9
  rw [ht9] at hP1
  obtain ⟨hP, hD⟩ := va_join (wr := [(om, .inr (4, [.int th, .int sa, .ref (am 0), .ref (am 1), .double mi, .ref (am 2), .ref (am 3), .ref (am 4), .int (nI nf), .ref (am 5), .ref (am 6), .ref (am 7), .ref (am 8), .ref (am 9), .ref (am 10), .ref (am 11), .ref (am 12), .ref (am 13), .ref (am 14), .ref (am 15), .ref (am 16), .ref (am 17), .ref (am 18), .ref (am 19)]))]) (w1 := []) hP hD [] [0] rfl rfl (by decide) (by decide) hk9 hFc hP1 hD1
  generalize H1 = H at hP hS ⊢
  have hP : va_P G vwCl [(om, .inr (4, [.int th, .int sa, .ref (am 0), .ref (am 1), .double mi, .ref (am 2), .ref (am 3), .ref (am 4), .int (nI nf), .ref (am 5), .ref (am 6), .ref (am 7), .ref (am 8), .ref (am 9), .ref (am 10), .ref (am 11), .ref (am 12), .ref (am 13), .ref (am 14), .ref (am 15), .ref (am 16), .ref (am 17), .ref (am 18), .ref (am 19)]))] H := hP
  have hD : va_D A [(om, .inr (4, [.int th, .int sa, .ref (am 0), .ref (am 1), .double mi, .ref (am 2), .ref (am 3), .ref (am 4), .int (nI nf), .ref (am 5), .ref (am 6), .ref (am 7), .ref (am 8), .ref (am 9), .ref (am 10), .ref (am 11), .ref (am 12), .ref (am 13), .ref (am 14), .ref (am 15), .ref (am 16), .ref (am 17), .ref (am 18), .ref (am 19)]))] := hD
  by_cases ci3 : (-1000) ≤ xa ∧ xa ≤ 1000
  rotate_left
  · skip
    obtain rfl : ri1 = 0 := hw.trans (if_neg ci3)
    refine lv_if_eq (tgt := 30) hx hb dX4_feed_10 (by decide) (fun _ => ?_) (fun h => absurd (by decide) h)
    refine lv_iconst (v := 0) hx hb dX4_feed_30 (by decide) ?_
    refine lv_istore_n (lv' := [(3, .int 0), (0, .ref om), (1, .int xa), (2, .int xb)]) hx hb dX4_feed_31 rfl hl (by decide) rfl (fun ls hl => ?_)
    refine lv_aload_n hx hb dX4_feed_32 rfl (lv_at hl 1 rfl) ?_
    refine lv_iload_n hx hb dX4_feed_33 rfl (lv_at hl 0 rfl) ?_
    refine lv_if_ne (tgt := 41) hx hb dX4_feed_34 (by decide) (fun h => absurd (by decide) h) (fun _ => ?_)
    refine lv_iconst (v := 1) hx hb dX4_feed_37 (by decide) ?_
    refine lv_goto (tgt := 56) hx hb dX4_feed_38 (by decide) ?_
    have hPc := hP.sub (ws' := [(om, .inr (4, [.int th, .int sa, .ref (am 0), .ref (am 1), .double mi, .ref (am 2), .ref (am 3), .ref (am 4), .int (nI nf), .ref (am 5), .ref (am 6), .ref (am 7), .ref (am 8), .ref (am 9), .ref (am 10), .ref (am 11), .ref (am 12), .ref (am 13), .ref (am 14), .ref (am 15), .ref (am 16), .ref (am 17), .ref (am 18), .ref (am 19)]))]) [0] rfl
    have hDc := hD.sub (ws' := [(om, .inr (4, [.int th, .int sa, .ref (am 0), .ref (am 1), .double mi, .ref (am 2), .ref (am 3), .ref (am 4), .int (nI nf), .ref (am 5), .ref (am 6), .ref (am 7), .ref (am 8), .ref (am 9), .ref (am 10), .ref (am 11), .ref (am 12), .ref (am 13), .ref (am 14), .ref (am 15), .ref (am 16), .ref (am 17), .ref (am 18), .ref (am 19)]))]) [0] (by decide) rfl
    have hFc := va_free (wc := [(om, .inr (4, [.int th, .int sa, .ref (am 0), .ref (am 1), .double mi, .ref (am 2), .ref (am 3), .ref (am 4), .int (nI nf), .ref (am 5), .ref (am 6), .ref (am 7), .ref (am 8), .ref (am 9), .ref (am 10), .ref (am 11), .ref (am 12), .ref (am 13), .ref (am 14), .ref (am 15), .ref (am 16), .ref (am 17), .ref (am 18), .ref (am 19)]))]) hD hS hA [0] rfl
    refine va_calli (va_runV (As := [.int 1]) (rest := []) ⟨hx, hb, hml, hown, hts⟩ (m_X4_goesWell l G q H.size om am th sa (nI nf) mi 1) (cwV 1 hts gX4_feed_X4_goesWell rfl rfl rfl (by decide +kernel) ⟨Nat.le_of_ble_eq_true rfl, Nat.le_of_ble_eq_true rfl⟩) ⟨preW_blind, (va_recv hK hPc (ci := 4) (q0 := 0) rfl rfl), preW_start hPc hK hDc hNF⟩ rfl rfl hl.1 rfl (lv_room (Nat.le_of_ble_eq_true rfl)) dX4_feed_56 ⟨(Nat.zero_le _), (Nat.zero_le _)⟩) hS (fun q _ h => hFc q h) hFc (fun gr6 u9 t9 H1 locs ht9 hv9 hw hB9 hz9 hk9 hS => ?_)
    obtain ⟨⟩ := u9
    obtain ⟨hP1, hD1⟩ := hB9
    rw [ht9] at hP1
    obtain ⟨hP, hD⟩ := va_join (wr := []) (w1 := [(om, .inr (4, [.int 1, .int sa, .ref (am 0), .ref (am 1), .double mi, .ref (am 2), .ref (am 3), .ref (am 4), .int (nI nf), .ref (am 5), .ref (am 6), .ref (am 7), .ref (am 8), .ref (am 9), .ref (am 10), .ref (am 11), .ref (am 12), .ref (am 13), .ref (am 14), .ref (am 15), .ref (am 16), .ref (am 17), .ref (am 18), .ref (am 19)]))]) hP hD [0] [] rfl rfl (by decide) (by decide) hk9 hFc hP1 hD1
    generalize H1 = H at hP hS ⊢
    have hP : va_P G vwCl [(om, .inr (4, [.int 1, .int sa, .ref (am 0), .ref (am 1), .double mi, .ref (am 2), .ref (am 3), .ref (am 4), .int (nI nf), .ref (am 5), .ref (am 6), .ref (am 7), .ref (am 8), .ref (am 9), .ref (am 10), .ref (am 11), .ref (am 12), .ref (am 13), .ref (am 14), .ref (am 15), .ref (am 16), .ref (am 17), .ref (am 18), .ref (am 19)]))] H := hP
    have hD : va_D A [(om, .inr (4, [.int 1, .int sa, .ref (am 0), .ref (am 1), .double mi, .ref (am 2), .ref (am 3), .ref (am 4), .int (nI nf), .ref (am 5), .ref (am 6), .ref (am 7), .ref (am 8), .ref (am 9), .ref (am 10), .ref (am 11), .ref (am 12), .ref (am 13), .ref (am 14), .ref (am 15), .ref (am 16), .ref (am 17), .ref (am 18), .ref (am 19)]))] := hD
    obtain rfl : gr6 = 0 := hw.trans (by decide)
    refine lv_if_ne (tgt := 64) hx hb dX4_feed_59 (by decide) (fun h => absurd (by decide) h) (fun _ => ?_)
    refine lv_iconst (v := 0) hx hb dX4_feed_62 (by decide) ?_
    have hP9 := hP
    have hD9 := hD
    exact W.iret (v := 0) hx hb hr (fun t ht hW => ⟨⟨0, 1, rfl, by dsimp only; unfold feedC; rw [if_neg ci3], by rw [ht]; exact hP9, hD9⟩, hS.F ht⟩) hS.2.2 dX4_feed_63
  obtain rfl : ri1 = 1 := hw.trans (if_pos ci3)
  refine lv_if_eq (tgt := 30) hx hb dX4_feed_10 (by decide) (fun h => absurd h (by decide)) (fun _ => ?_)
  refine lv_iload_n hx hb dX4_feed_13 rfl (lv_at hl 2 rfl) ?_
  refine lv_sipush (v := (-1000)) hx hb dX4_feed_14 (by decide) ?_
  refine lv_sipush (v := 1000) hx hb dX4_feed_17 (by decide) ?_
  have hPc := hP.sub (ws' := []) [] rfl
  have hDc := hD.sub (ws' := []) [] (by decide) rfl
  have hFc := va_free (wc := []) hD hS hA [] rfl
  refine va_calli (va_runS (As := [.int xb, .int (-1000), .int 1000]) (rest := []) ⟨hx, hb, hml, hown, hts⟩ (m_X4_in l G q H.size xb (-1000) 1000) (va_cwS 3 hts gX4_feed_X4_in rfl rfl rfl (by decide +kernel) ⟨Nat.le_of_ble_eq_true rfl, Nat.le_of_ble_eq_true rfl⟩) ⟨preW_blind, preW_start hPc hK hDc hNF⟩ rfl rfl hl.1 rfl (lv_room (Nat.le_of_ble_eq_true rfl)) dX4_feed_20 ⟨(Nat.zero_le _), (Nat.zero_le _)⟩) hS (fun q _ h => hFc q h) hFc (fun ri10 u9 t9 H1 locs ht9 hv9 hw hB9 hz9 hk9 hS => ?_)
  obtain ⟨⟩ := u9
  obtain ⟨hP1, hD1⟩ := hB9
  rw [ht9] at hP1
  obtain ⟨hP, hD⟩ := va_join (wr := [(om, .inr (4, [.int th, .int sa, .ref (am 0), .ref (am 1), .double mi, .ref (am 2), .ref (am 3), .ref (am 4), .int (nI nf), .ref (am 5), .ref (am 6), .ref (am 7), .ref (am 8), .ref (am 9), .ref (am 10), .ref (am 11), .ref (am 12), .ref (am 13), .ref (am 14), .ref (am 15), .ref (am 16), .ref (am 17), .ref (am 18), .ref (am 19)]))]) (w1 := []) hP hD [] [0] rfl rfl (by decide) (by decide) hk9 hFc hP1 hD1
  generalize H1 = H at hP hS ⊢
  have hP : va_P G vwCl [(om, .inr (4, [.int th, .int sa, .ref (am 0), .ref (am 1), .double mi, .ref (am 2), .ref (am 3), .ref (am 4), .int (nI nf), .ref (am 5), .ref (am 6), .ref (am 7), .ref (am 8), .ref (am 9), .ref (am 10), .ref (am 11), .ref (am 12), .ref (am 13), .ref (am 14), .ref (am 15), .ref (am 16), .ref (am 17), .ref (am 18), .ref (am 19)]))] H := hP
  have hD : va_D A [(om, .inr (4, [.int th, .int sa, .ref (am 0), .ref (am 1), .double mi, .ref (am 2), .ref (am 3), .ref (am 4), .int (nI nf), .ref (am 5), .ref (am 6), .ref (am 7), .ref (am 8), .ref (am 9), .ref (am 10), .ref (am 11), .ref (am 12), .ref (am 13), .ref (am 14), .ref (am 15), .ref (am 16), .ref (am 17), .ref (am 18), .ref (am 19)]))] := hD
  by_cases ci12 : (-1000) ≤ xb ∧ xb ≤ 1000
  rotate_left
  · skip
    obtain rfl : ri10 = 0 := hw.trans (if_neg ci12)
    refine lv_if_eq (tgt := 30) hx hb dX4_feed_23 (by decide) (fun _ => ?_) (fun h => absurd (by decide) h)
    refine lv_iconst (v := 0) hx hb dX4_feed_30 (by decide) ?_
    refine lv_istore_n (lv' := [(3, .int 0), (0, .ref om), (1, .int xa), (2, .int xb)]) hx hb dX4_feed_31 rfl hl (by decide) rfl (fun ls hl => ?_)
    refine lv_aload_n hx hb dX4_feed_32 rfl (lv_at hl 1 rfl) ?_
    refine lv_iload_n hx hb dX4_feed_33 rfl (lv_at hl 0 rfl) ?_
    refine lv_if_ne (tgt := 41) hx hb dX4_feed_34 (by decide) (fun h => absurd (by decide) h) (fun _ => ?_)
    refine lv_iconst (v := 1) hx hb dX4_feed_37 (by decide) ?_
    refine lv_goto (tgt := 56) hx hb dX4_feed_38 (by decide) ?_
    have hPc := hP.sub (ws' := [(om, .inr (4, [.int th, .int sa, .ref (am 0), .ref (am 1), .double mi, .ref (am 2), .ref (am 3), .ref (am 4), .int (nI nf), .ref (am 5), .ref (am 6), .ref (am 7), .ref (am 8), .ref (am 9), .ref (am 10), .ref (am 11), .ref (am 12), .ref (am 13), .ref (am 14), .ref (am 15), .ref (am 16), .ref (am 17), .ref (am 18), .ref (am 19)]))]) [0] rfl
    have hDc := hD.sub (ws' := [(om, .inr (4, [.int th, .int sa, .ref (am 0), .ref (am 1), .double mi, .ref (am 2), .ref (am 3), .ref (am 4), .int (nI nf), .ref (am 5), .ref (am 6), .ref (am 7), .ref (am 8), .ref (am 9), .ref (am 10), .ref (am 11), .ref (am 12), .ref (am 13), .ref (am 14), .ref (am 15), .ref (am 16), .ref (am 17), .ref (am 18), .ref (am 19)]))]) [0] (by decide) rfl
    have hFc := va_free (wc := [(om, .inr (4, [.int th, .int sa, .ref (am 0), .ref (am 1), .double mi, .ref (am 2), .ref (am 3), .ref (am 4), .int (nI nf), .ref (am 5), .ref (am 6), .ref (am 7), .ref (am 8), .ref (am 9), .ref (am 10), .ref (am 11), .ref (am 12), .ref (am 13), .ref (am 14), .ref (am 15), .ref (am 16), .ref (am 17), .ref (am 18), .ref (am 19)]))]) hD hS hA [0] rfl
    refine va_calli (va_runV (As := [.int 1]) (rest := []) ⟨hx, hb, hml, hown, hts⟩ (m_X4_goesWell l G q H.size om am th sa (nI nf) mi 1) (cwV 1 hts gX4_feed_X4_goesWell rfl rfl rfl (by decide +kernel) ⟨Nat.le_of_ble_eq_true rfl, Nat.le_of_ble_eq_true rfl⟩) ⟨preW_blind, (va_recv hK hPc (ci := 4) (q0 := 0) rfl rfl), preW_start hPc hK hDc hNF⟩ rfl rfl hl.1 rfl (lv_room (Nat.le_of_ble_eq_true rfl)) dX4_feed_56 ⟨(Nat.zero_le _), (Nat.zero_le _)⟩) hS (fun q _ h => hFc q h) hFc (fun gr15 u9 t9 H1 locs ht9 hv9 hw hB9 hz9 hk9 hS => ?_)
    obtain ⟨⟩ := u9
    obtain ⟨hP1, hD1⟩ := hB9
    rw [ht9] at hP1
    obtain ⟨hP, hD⟩ := va_join (wr := []) (w1 := [(om, .inr (4, [.int 1, .int sa, .ref (am 0), .ref (am 1), .double mi, .ref (am 2), .ref (am 3), .ref (am 4), .int (nI nf), .ref (am 5), .ref (am 6), .ref (am 7), .ref (am 8), .ref (am 9), .ref (am 10), .ref (am 11), .ref (am 12), .ref (am 13), .ref (am 14), .ref (am 15), .ref (am 16), .ref (am 17), .ref (am 18), .ref (am 19)]))]) hP hD [0] [] rfl rfl (by decide) (by decide) hk9 hFc hP1 hD1
    generalize H1 = H at hP hS ⊢
    have hP : va_P G vwCl [(om, .inr (4, [.int 1, .int sa, .ref (am 0), .ref (am 1), .double mi, .ref (am 2), .ref (am 3), .ref (am 4), .int (nI nf), .ref (am 5), .ref (am 6), .ref (am 7), .ref (am 8), .ref (am 9), .ref (am 10), .ref (am 11), .ref (am 12), .ref (am 13), .ref (am 14), .ref (am 15), .ref (am 16), .ref (am 17), .ref (am 18), .ref (am 19)]))] H := hP
    have hD : va_D A [(om, .inr (4, [.int 1, .int sa, .ref (am 0), .ref (am 1), .double mi, .ref (am 2), .ref (am 3), .ref (am 4), .int (nI nf), .ref (am 5), .ref (am 6), .ref (am 7), .ref (am 8), .ref (am 9), .ref (am 10), .ref (am 11), .ref (am 12), .ref (am 13), .ref (am 14), .ref (am 15), .ref (am 16), .ref (am 17), .ref (am 18), .ref (am 19)]))] := hD
    obtain rfl : gr15 = 0 := hw.trans (by decide)
    refine lv_if_ne (tgt := 64) hx hb dX4_feed_59 (by decide) (fun h => absurd (by decide) h) (fun _ => ?_)
    refine lv_iconst (v := 0) hx hb dX4_feed_62 (by decide) ?_
    have hP9 := hP
    have hD9 := hD
    exact W.iret (v := 0) hx hb hr (fun t ht hW => ⟨⟨0, 1, rfl, by dsimp only; unfold feedC; rw [if_pos ci3, if_neg ci12], by rw [ht]; exact hP9, hD9⟩, hS.F ht⟩) hS.2.2 dX4_feed_63
  obtain rfl : ri10 = 1 := hw.trans (if_pos ci12)
  refine lv_if_eq (tgt := 30) hx hb dX4_feed_23 (by decide) (fun h => absurd h (by decide)) (fun _ => ?_)
  refine lv_iconst (v := 1) hx hb dX4_feed_26 (by decide) ?_
  refine lv_goto (tgt := 31) hx hb dX4_feed_27 (by decide) ?_
  refine lv_istore_n (lv' := [(3, .int 1), (0, .ref om), (1, .int xa), (2, .int xb)]) hx hb dX4_feed_31 rfl hl (by decide) rfl (fun ls hl => ?_)
  refine lv_aload_n hx hb dX4_feed_32 rfl (lv_at hl 1 rfl) ?_
  refine lv_iload_n hx hb dX4_feed_33 rfl (lv_at hl 0 rfl) ?_
  refine lv_if_ne (tgt := 41) hx hb dX4_feed_34 (by decide) (fun _ => ?_) (fun h => absurd h (by decide))
  refine lv_aload_n hx hb dX4_feed_41 rfl (lv_at hl 1 rfl) ?_
  refine va_get (D := G) (ci := 4) (v := .int sa) (C := RX4) (T := TX4) (N := 24) hx hb hts in_X4_feed_X4 hown hK hP 0 rfl rfl 1 (by decide) (hts (.fieldLink RX4 130 "EchoBenchModel" "samples" "I") (by decide +kernel)) (fun _ h9 => h9) rfl dX4_feed_42 ?_
  refine lv_sipush (v := 2000) hx hb dX4_feed_45 (by decide) ?_
  refine lv_icmp_ne (tgt := 55) hx hb dX4_feed_48 (by decide) (fun c9 => ?_) (fun c9 => ?_)
  · skip
    exact absurd (by unfold feedC; rw [if_pos ci3, if_pos ci12, if_neg c9]) hc
  · skip
    refine lv_iconst (v := 2) hx hb dX4_feed_51 (by decide) ?_
    refine lv_goto (tgt := 56) hx hb dX4_feed_52 (by decide) ?_
    have hPc := hP.sub (ws' := [(om, .inr (4, [.int th, .int sa, .ref (am 0), .ref (am 1), .double mi, .ref (am 2), .ref (am 3), .ref (am 4), .int (nI nf), .ref (am 5), .ref (am 6), .ref (am 7), .ref (am 8), .ref (am 9), .ref (am 10), .ref (am 11), .ref (am 12), .ref (am 13), .ref (am 14), .ref (am 15), .ref (am 16), .ref (am 17), .ref (am 18), .ref (am 19)]))]) [0] rfl
    have hDc := hD.sub (ws' := [(om, .inr (4, [.int th, .int sa, .ref (am 0), .ref (am 1), .double mi, .ref (am 2), .ref (am 3), .ref (am 4), .int (nI nf), .ref (am 5), .ref (am 6), .ref (am 7), .ref (am 8), .ref (am 9), .ref (am 10), .ref (am 11), .ref (am 12), .ref (am 13), .ref (am 14), .ref (am 15), .ref (am 16), .ref (am 17), .ref (am 18), .ref (am 19)]))]) [0] (by decide) rfl
    have hFc := va_free (wc := [(om, .inr (4, [.int th, .int sa, .ref (am 0), .ref (am 1), .double mi, .ref (am 2), .ref (am 3), .ref (am 4), .int (nI nf), .ref (am 5), .ref (am 6), .ref (am 7), .ref (am 8), .ref (am 9), .ref (am 10), .ref (am 11), .ref (am 12), .ref (am 13), .ref (am 14), .ref (am 15), .ref (am 16), .ref (am 17), .ref (am 18), .ref (am 19)]))]) hD hS hA [0] rfl
    refine va_calli (va_runV (As := [.int 2]) (rest := []) ⟨hx, hb, hml, hown, hts⟩ (m_X4_goesWell l G q H.size om am th sa (nI nf) mi 2) (cwV 1 hts gX4_feed_X4_goesWell rfl rfl rfl (by decide +kernel) ⟨Nat.le_of_ble_eq_true rfl, Nat.le_of_ble_eq_true rfl⟩) ⟨preW_blind, (va_recv hK hPc (ci := 4) (q0 := 0) rfl rfl), preW_start hPc hK hDc hNF⟩ rfl rfl hl.1 rfl (lv_room (Nat.le_of_ble_eq_true rfl)) dX4_feed_56 ⟨(Nat.zero_le _), (Nat.zero_le _)⟩) hS (fun q _ h => hFc q h) hFc (fun gr20 u9 t9 H1 locs ht9 hv9 hw hB9 hz9 hk9 hS => ?_)
    obtain ⟨⟩ := u9
    obtain ⟨hP1, hD1⟩ := hB9
    rw [ht9] at hP1
    obtain ⟨hP, hD⟩ := va_join (wr := []) (w1 := [(om, .inr (4, [.int 2, .int sa, .ref (am 0), .ref (am 1), .double mi, .ref (am 2), .ref (am 3), .ref (am 4), .int (nI nf), .ref (am 5), .ref (am 6), .ref (am 7), .ref (am 8), .ref (am 9), .ref (am 10), .ref (am 11), .ref (am 12), .ref (am 13), .ref (am 14), .ref (am 15), .ref (am 16), .ref (am 17), .ref (am 18), .ref (am 19)]))]) hP hD [0] [] rfl rfl (by decide) (by decide) hk9 hFc hP1 hD1
    generalize H1 = H at hP hS ⊢
    have hP : va_P G vwCl [(om, .inr (4, [.int 2, .int sa, .ref (am 0), .ref (am 1), .double mi, .ref (am 2), .ref (am 3), .ref (am 4), .int (nI nf), .ref (am 5), .ref (am 6), .ref (am 7), .ref (am 8), .ref (am 9), .ref (am 10), .ref (am 11), .ref (am 12), .ref (am 13), .ref (am 14), .ref (am 15), .ref (am 16), .ref (am 17), .ref (am 18), .ref (am 19)]))] H := hP
    have hD : va_D A [(om, .inr (4, [.int 2, .int sa, .ref (am 0), .ref (am 1), .double mi, .ref (am 2), .ref (am 3), .ref (am 4), .int (nI nf), .ref (am 5), .ref (am 6), .ref (am 7), .ref (am 8), .ref (am 9), .ref (am 10), .ref (am 11), .ref (am 12), .ref (am 13), .ref (am 14), .ref (am 15), .ref (am 16), .ref (am 17), .ref (am 18), .ref (am 19)]))] := hD
    obtain rfl : gr20 = 0 := hw.trans (by decide)
    refine lv_if_ne (tgt := 64) hx hb dX4_feed_59 (by decide) (fun h => absurd (by decide) h) (fun _ => ?_)
    refine lv_iconst (v := 0) hx hb dX4_feed_62 (by decide) ?_
    have hP9 := hP
    have hD9 := hD
    exact W.iret (v := 0) hx hb hr (fun t ht hW => ⟨⟨0, 2, rfl, by dsimp only; unfold feedC; rw [if_pos ci3, if_pos ci12, if_pos c9], by rw [ht]; exact hP9, hD9⟩, hS.F ht⟩) hS.2.2 dX4_feed_63

theorem in_X4_script_X4 : ∀ w ∈ wsX40, w ∈ wsX4_script := by decide +kernel
set_option maxHeartbeats 4000000 in
set_option maxRecDepth 100000 in
/-- script: where it throws -/
theorem m_X4_script_no (l : Launch) (G : va_G) (q : Nat → ClassId) (sz : Nat) (om : Nat) (am : Nat → Nat) (th sa : Int32) (mi : UInt64) (nf : Nat) (xa xb : Int32) (hc : ¬ scriptC xa xb sa = 0) : Met l yX4_script wsX4_script ({ frames := 1, cells := 0, slots := 0, locals := 22 } : Jvm.Room) (PreW G q [.ref om, .int xa, .int xb] [(om, .inr (4, [.int th, .int sa, .ref (am 0), .ref (am 1), .double mi, .ref (am 2), .ref (am 3), .ref (am 4), .int (nI nf), .ref (am 5), .ref (am 6), .ref (am 7), .ref (am 8), .ref (am 9), .ref (am 10), .ref (am 11), .ref (am 12), .ref (am 13), .ref (am 14), .ref (am 15), .ref (am 16), .ref (am 17), .ref (am 18), .ref (am 19)]))] sz) (va_Qi (fun (_ : Int32) (u : Int32) => u = scriptC xa xb sa) (fun (u : Int32) t => EndA G (va_A [(om, .inr (4, [.int th, .int sa, .ref (am 0), .ref (am 1), .double mi, .ref (am 2), .ref (am 3), .ref (am 4), .int (nI nf), .ref (am 5), .ref (am 6), .ref (am 7), .ref (am 8), .ref (am 9), .ref (am 10), .ref (am 11), .ref (am 12), .ref (am 13), .ref (am 14), .ref (am 15), .ref (am 16), .ref (am 17), .ref (am 18), .ref (am 19)]))] sz) [(om, .inr (4, [.int u, .int sa, .ref (am 0), .ref (am 1), .double mi, .ref (am 2), .ref (am 3), .ref (am 4), .int (nI nf), .ref (am 5), .ref (am 6), .ref (am 7), .ref (am 8), .ref (am 9), .ref (am 10), .ref (am 11), .ref (am 12), .ref (am 13), .ref (am 14), .ref (am 15), .ref (am 16), .ref (am 17), .ref (am 18), .ref (am 19)]))] t) (va_A [(om, .inr (4, [.int th, .int sa, .ref (am 0), .ref (am 1), .double mi, .ref (am 2), .ref (am 3), .ref (am 4), .int (nI nf), .ref (am 5), .ref (am 6), .ref (am 7), .ref (am 8), .ref (am 9), .ref (am 10), .ref (am 11), .ref (am 12), .ref (am 13), .ref (am 14), .ref (am 15), .ref (am 16), .ref (am 17), .ref (am 18), .ref (am 19)]))] sz)) 0 0 (va_A [(om, .inr (4, [.int th, .int sa, .ref (am 0), .ref (am 1), .double mi, .ref (am 2), .ref (am 3), .ref (am 4), .int (nI nf), .ref (am 5), .ref (am 6), .ref (am 7), .ref (am 8), .ref (am 9), .ref (am 10), .ref (am 11), .ref (am 12), .ref (am 13), .ref (am 14), .ref (am 15), .ref (am 16), .ref (am 17), .ref (am 18), .ref (am 19)]))] sz) := by
  refine Met.ofW (cc := cX4_script) (maxL := 6) (ret := (some .int)) (by decide +kernel) rfl ?_
  intro p e s m args below meth c s₁ B hml hv
  obtain ⟨rfl, hsz, hP, hK, hD0, hNF⟩ := hv
  have hx := B.exec
  have hb := B.bytes
  have hr := B.returns
  have hts := atoms_spec (ws := wsX4_script) B.pre
  have hown : s.vm.findClass RX4 = some m.cls := findClass_of_methodNamed B.named
  have hlocks := B.notSynchronized
  subst hsz
  have hD := hD0.self (sz := s.heap.size)
  generalize hAe : va_A [(om, .inr (4, [.int th, .int sa, .ref (am 0), .ref (am 1), .double mi, .ref (am 2), .ref (am 3), .ref (am 4), .int (nI nf), .ref (am 5), .ref (am 6), .ref (am 7), .ref (am 8), .ref (am 9), .ref (am 10), .ref (am 11), .ref (am 12), .ref (am 13), .ref (am 14), .ref (am 15), .ref (am 16), .ref (am 17), .ref (am 18), .ref (am 19)]))] s.heap.size = A at hD ⊢
  have hA : ∀ q : Nat, s.heap.size ≤ q → A q := fun q h => by rw [← hAe]; exact Or.inr h
  have hS : va_S A s.heap s.heap [] := va_S.rf
  have hP : va_P G vwCl [(om, .inr (4, [.int th, .int sa, .ref (am 0), .ref (am 1), .double mi, .ref (am 2), .ref (am 3), .ref (am 4), .int (nI nf), .ref (am 5), .ref (am 6), .ref (am 7), .ref (am 8), .ref (am 9), .ref (am 10), .ref (am 11), .ref (am 12), .ref (am 13), .ref (am 14), .ref (am 15), .ref (am 16), .ref (am 17), .ref (am 18), .ref (am 19)]))] s.heap := hP
  have hl := lv_entry ([.ref om, .int xa, .int xb]) (n := 6) (Nat.le_of_ble_eq_true rfl)
  rw [lg_entry_eq]
  generalize (lg_sl ([.ref om, .int xa, .int xb]) ++ List.replicate (6 - (lg_sl ([.ref om, .int xa, .int xb])).length) Slot.unset).toArray = ls at hl ⊢
  have hl : lv_has ls 6 [(0, .ref om), (1, .int xa), (2, .int xb)] := hl
  refine lv_iload_n hx hb dX4_script_0 rfl (lv_at hl 1 rfl) ?_
  refine lv_iconst (v := 0) hx hb dX4_script_1 (by decide) ?_
  refine lv_sipush (v := 2000) hx hb dX4_script_2 (by decide) ?_
  have hPc := hP.sub (ws' := []) [] rfl
  have hDc := hD.sub (ws' := []) [] (by decide) rfl
  have hFc := va_free (wc := []) hD hS hA [] rfl
  refine va_calli (va_runS (As := [.int xa, .int 0, .int 2000]) (rest := []) ⟨hx, hb, hml, hown, hts⟩ (m_X4_in l G q s.heap.size xa 0 2000) (va_cwS 3 hts gX4_script_X4_in rfl rfl rfl (by decide +kernel) ⟨Nat.le_of_ble_eq_true rfl, Nat.le_of_ble_eq_true rfl⟩) ⟨preW_blind, preW_start hPc hK hDc hNF⟩ rfl rfl hl.1 rfl (lv_room (Nat.le_of_ble_eq_true rfl)) dX4_script_5 ⟨(Nat.zero_le _), (Nat.zero_le _)⟩) hS (fun q _ h => hFc q h) hFc (fun ri1 u9 t9 H1 locs ht9 hv9 hw hB9 hz9 hk9 hS => ?_)
  obtain ⟨⟩ := u9
  obtain ⟨hP1, hD1⟩ := hB9
  rw [ht9] at hP1
  obtain ⟨hP, hD⟩ := va_join (wr := [(om, .inr (4, [.int th, .int sa, .ref (am 0), .ref (am 1), .double mi, .ref (am 2), .ref (am 3), .ref (am 4), .int (nI nf), .ref (am 5), .ref (am 6), .ref (am 7), .ref (am 8), .ref (am 9), .ref (am 10), .ref (am 11), .ref (am 12), .ref (am 13), .ref (am 14), .ref (am 15), .ref (am 16), .ref (am 17), .ref (am 18), .ref (am 19)]))]) (w1 := []) hP hD [] [0] rfl rfl (by decide) (by decide) hk9 hFc hP1 hD1
  generalize H1 = H at hP hS ⊢
  have hP : va_P G vwCl [(om, .inr (4, [.int th, .int sa, .ref (am 0), .ref (am 1), .double mi, .ref (am 2), .ref (am 3), .ref (am 4), .int (nI nf), .ref (am 5), .ref (am 6), .ref (am 7), .ref (am 8), .ref (am 9), .ref (am 10), .ref (am 11), .ref (am 12), .ref (am 13), .ref (am 14), .ref (am 15), .ref (am 16), .ref (am 17), .ref (am 18), .ref (am 19)]))] H := hP
  have hD : va_D A [(om, .inr (4, [.int th, .int sa, .ref (am 0), .ref (am 1), .double mi, .ref (am 2), .ref (am 3), .ref (am 4), .int (nI nf), .ref (am 5), .ref (am 6), .ref (am 7), .ref (am 8), .ref (am 9), .ref (am 10), .ref (am 11), .ref (am 12), .ref (am 13), .ref (am 14), .ref (am 15), .ref (am 16), .ref (am 17), .ref (am 18), .ref (am 19)]))] := hD
  by_cases ci3 : 0 ≤ xa ∧ xa ≤ 2000
  rotate_left
  · skip
    obtain rfl : ri1 = 0 := hw.trans (if_neg ci3)
    refine lv_if_eq (tgt := 25) hx hb dX4_script_8 (by decide) (fun _ => ?_) (fun h => absurd (by decide) h)
    refine lv_iconst (v := 0) hx hb dX4_script_25 (by decide) ?_
    refine lv_istore_n (lv' := [(3, .int 0), (0, .ref om), (1, .int xa), (2, .int xb)]) hx hb dX4_script_26 rfl hl (by decide) rfl (fun ls hl => ?_)
    refine lv_aload_n hx hb dX4_script_27 rfl (lv_at hl 1 rfl) ?_
    refine lv_iload_n hx hb dX4_script_28 rfl (lv_at hl 0 rfl) ?_
    refine lv_if_ne (tgt := 36) hx hb dX4_script_29 (by decide) (fun h => absurd (by decide) h) (fun _ => ?_)
    refine lv_iconst (v := 1) hx hb dX4_script_32 (by decide) ?_
    refine lv_goto (tgt := 53) hx hb dX4_script_33 (by decide) ?_
    have hPc := hP.sub (ws' := [(om, .inr (4, [.int th, .int sa, .ref (am 0), .ref (am 1), .double mi, .ref (am 2), .ref (am 3), .ref (am 4), .int (nI nf), .ref (am 5), .ref (am 6), .ref (am 7), .ref (am 8), .ref (am 9), .ref (am 10), .ref (am 11), .ref (am 12), .ref (am 13), .ref (am 14), .ref (am 15), .ref (am 16), .ref (am 17), .ref (am 18), .ref (am 19)]))]) [0] rfl
    have hDc := hD.sub (ws' := [(om, .inr (4, [.int th, .int sa, .ref (am 0), .ref (am 1), .double mi, .ref (am 2), .ref (am 3), .ref (am 4), .int (nI nf), .ref (am 5), .ref (am 6), .ref (am 7), .ref (am 8), .ref (am 9), .ref (am 10), .ref (am 11), .ref (am 12), .ref (am 13), .ref (am 14), .ref (am 15), .ref (am 16), .ref (am 17), .ref (am 18), .ref (am 19)]))]) [0] (by decide) rfl
    have hFc := va_free (wc := [(om, .inr (4, [.int th, .int sa, .ref (am 0), .ref (am 1), .double mi, .ref (am 2), .ref (am 3), .ref (am 4), .int (nI nf), .ref (am 5), .ref (am 6), .ref (am 7), .ref (am 8), .ref (am 9), .ref (am 10), .ref (am 11), .ref (am 12), .ref (am 13), .ref (am 14), .ref (am 15), .ref (am 16), .ref (am 17), .ref (am 18), .ref (am 19)]))]) hD hS hA [0] rfl
    refine va_calli (va_runV (As := [.int 1]) (rest := []) ⟨hx, hb, hml, hown, hts⟩ (m_X4_goesWell l G q H.size om am th sa (nI nf) mi 1) (cwV 1 hts gX4_script_X4_goesWell rfl rfl rfl (by decide +kernel) ⟨Nat.le_of_ble_eq_true rfl, Nat.le_of_ble_eq_true rfl⟩) ⟨preW_blind, (va_recv hK hPc (ci := 4) (q0 := 0) rfl rfl), preW_start hPc hK hDc hNF⟩ rfl rfl hl.1 rfl (lv_room (Nat.le_of_ble_eq_true rfl)) dX4_script_53 ⟨(Nat.zero_le _), (Nat.zero_le _)⟩) hS (fun q _ h => hFc q h) hFc (fun gr6 u9 t9 H1 locs ht9 hv9 hw hB9 hz9 hk9 hS => ?_)
    obtain ⟨⟩ := u9
    obtain ⟨hP1, hD1⟩ := hB9
    rw [ht9] at hP1
    obtain ⟨hP, hD⟩ := va_join (wr := []) (w1 := [(om, .inr (4, [.int 1, .int sa, .ref (am 0), .ref (am 1), .double mi, .ref (am 2), .ref (am 3), .ref (am 4), .int (nI nf), .ref (am 5), .ref (am 6), .ref (am 7), .ref (am 8), .ref (am 9), .ref (am 10), .ref (am 11), .ref (am 12), .ref (am 13), .ref (am 14), .ref (am 15), .ref (am 16), .ref (am 17), .ref (am 18), .ref (am 19)]))]) hP hD [0] [] rfl rfl (by decide) (by decide) hk9 hFc hP1 hD1
    generalize H1 = H at hP hS ⊢
    have hP : va_P G vwCl [(om, .inr (4, [.int 1, .int sa, .ref (am 0), .ref (am 1), .double mi, .ref (am 2), .ref (am 3), .ref (am 4), .int (nI nf), .ref (am 5), .ref (am 6), .ref (am 7), .ref (am 8), .ref (am 9), .ref (am 10), .ref (am 11), .ref (am 12), .ref (am 13), .ref (am 14), .ref (am 15), .ref (am 16), .ref (am 17), .ref (am 18), .ref (am 19)]))] H := hP
    have hD : va_D A [(om, .inr (4, [.int 1, .int sa, .ref (am 0), .ref (am 1), .double mi, .ref (am 2), .ref (am 3), .ref (am 4), .int (nI nf), .ref (am 5), .ref (am 6), .ref (am 7), .ref (am 8), .ref (am 9), .ref (am 10), .ref (am 11), .ref (am 12), .ref (am 13), .ref (am 14), .ref (am 15), .ref (am 16), .ref (am 17), .ref (am 18), .ref (am 19)]))] := hD
    obtain rfl : gr6 = 0 := hw.trans (by decide)
    refine lv_if_ne (tgt := 61) hx hb dX4_script_56 (by decide) (fun h => absurd (by decide) h) (fun _ => ?_)
    refine lv_iconst (v := 0) hx hb dX4_script_59 (by decide) ?_
    have hP9 := hP
    have hD9 := hD
    exact W.iret (v := 0) hx hb hr (fun t ht hW => ⟨⟨0, 1, rfl, by dsimp only; unfold scriptC; rw [if_neg ci3], by rw [ht]; exact hP9, hD9⟩, hS.F ht⟩) hS.2.2 dX4_script_60
  obtain rfl : ri1 = 1 := hw.trans (if_pos ci3)
  refine lv_if_eq (tgt := 25) hx hb dX4_script_8 (by decide) (fun h => absurd h (by decide)) (fun _ => ?_)
  refine lv_iload_n hx hb dX4_script_11 rfl (lv_at hl 2 rfl) ?_
  refine lv_iconst (v := 1) hx hb dX4_script_12 (by decide) ?_
  refine lv_bipush (v := 100) hx hb dX4_script_13 (by decide) ?_
  have hPc := hP.sub (ws' := []) [] rfl
  have hDc := hD.sub (ws' := []) [] (by decide) rfl
  have hFc := va_free (wc := []) hD hS hA [] rfl
  refine va_calli (va_runS (As := [.int xb, .int 1, .int 100]) (rest := []) ⟨hx, hb, hml, hown, hts⟩ (m_X4_in l G q H.size xb 1 100) (va_cwS 3 hts gX4_script_X4_in rfl rfl rfl (by decide +kernel) ⟨Nat.le_of_ble_eq_true rfl, Nat.le_of_ble_eq_true rfl⟩) ⟨preW_blind, preW_start hPc hK hDc hNF⟩ rfl rfl hl.1 rfl (lv_room (Nat.le_of_ble_eq_true rfl)) dX4_script_15 ⟨(Nat.zero_le _), (Nat.zero_le _)⟩) hS (fun q _ h => hFc q h) hFc (fun ri10 u9 t9 H1 locs ht9 hv9 hw hB9 hz9 hk9 hS => ?_)
  obtain ⟨⟩ := u9
  obtain ⟨hP1, hD1⟩ := hB9
  rw [ht9] at hP1
  obtain ⟨hP, hD⟩ := va_join (wr := [(om, .inr (4, [.int th, .int sa, .ref (am 0), .ref (am 1), .double mi, .ref (am 2), .ref (am 3), .ref (am 4), .int (nI nf), .ref (am 5), .ref (am 6), .ref (am 7), .ref (am 8), .ref (am 9), .ref (am 10), .ref (am 11), .ref (am 12), .ref (am 13), .ref (am 14), .ref (am 15), .ref (am 16), .ref (am 17), .ref (am 18), .ref (am 19)]))]) (w1 := []) hP hD [] [0] rfl rfl (by decide) (by decide) hk9 hFc hP1 hD1
  generalize H1 = H at hP hS ⊢
  have hP : va_P G vwCl [(om, .inr (4, [.int th, .int sa, .ref (am 0), .ref (am 1), .double mi, .ref (am 2), .ref (am 3), .ref (am 4), .int (nI nf), .ref (am 5), .ref (am 6), .ref (am 7), .ref (am 8), .ref (am 9), .ref (am 10), .ref (am 11), .ref (am 12), .ref (am 13), .ref (am 14), .ref (am 15), .ref (am 16), .ref (am 17), .ref (am 18), .ref (am 19)]))] H := hP
  have hD : va_D A [(om, .inr (4, [.int th, .int sa, .ref (am 0), .ref (am 1), .double mi, .ref (am 2), .ref (am 3), .ref (am 4), .int (nI nf), .ref (am 5), .ref (am 6), .ref (am 7), .ref (am 8), .ref (am 9), .ref (am 10), .ref (am 11), .ref (am 12), .ref (am 13), .ref (am 14), .ref (am 15), .ref (am 16), .ref (am 17), .ref (am 18), .ref (am 19)]))] := hD
  by_cases ci12 : 1 ≤ xb ∧ xb ≤ 100
  rotate_left
  · skip
    obtain rfl : ri10 = 0 := hw.trans (if_neg ci12)
    refine lv_if_eq (tgt := 25) hx hb dX4_script_18 (by decide) (fun _ => ?_) (fun h => absurd (by decide) h)
    refine lv_iconst (v := 0) hx hb dX4_script_25 (by decide) ?_
    refine lv_istore_n (lv' := [(3, .int 0), (0, .ref om), (1, .int xa), (2, .int xb)]) hx hb dX4_script_26 rfl hl (by decide) rfl (fun ls hl => ?_)
    refine lv_aload_n hx hb dX4_script_27 rfl (lv_at hl 1 rfl) ?_
    refine lv_iload_n hx hb dX4_script_28 rfl (lv_at hl 0 rfl) ?_
    refine lv_if_ne (tgt := 36) hx hb dX4_script_29 (by decide) (fun h => absurd (by decide) h) (fun _ => ?_)
    refine lv_iconst (v := 1) hx hb dX4_script_32 (by decide) ?_
    refine lv_goto (tgt := 53) hx hb dX4_script_33 (by decide) ?_
    have hPc := hP.sub (ws' := [(om, .inr (4, [.int th, .int sa, .ref (am 0), .ref (am 1), .double mi, .ref (am 2), .ref (am 3), .ref (am 4), .int (nI nf), .ref (am 5), .ref (am 6), .ref (am 7), .ref (am 8), .ref (am 9), .ref (am 10), .ref (am 11), .ref (am 12), .ref (am 13), .ref (am 14), .ref (am 15), .ref (am 16), .ref (am 17), .ref (am 18), .ref (am 19)]))]) [0] rfl
    have hDc := hD.sub (ws' := [(om, .inr (4, [.int th, .int sa, .ref (am 0), .ref (am 1), .double mi, .ref (am 2), .ref (am 3), .ref (am 4), .int (nI nf), .ref (am 5), .ref (am 6), .ref (am 7), .ref (am 8), .ref (am 9), .ref (am 10), .ref (am 11), .ref (am 12), .ref (am 13), .ref (am 14), .ref (am 15), .ref (am 16), .ref (am 17), .ref (am 18), .ref (am 19)]))]) [0] (by decide) rfl
    have hFc := va_free (wc := [(om, .inr (4, [.int th, .int sa, .ref (am 0), .ref (am 1), .double mi, .ref (am 2), .ref (am 3), .ref (am 4), .int (nI nf), .ref (am 5), .ref (am 6), .ref (am 7), .ref (am 8), .ref (am 9), .ref (am 10), .ref (am 11), .ref (am 12), .ref (am 13), .ref (am 14), .ref (am 15), .ref (am 16), .ref (am 17), .ref (am 18), .ref (am 19)]))]) hD hS hA [0] rfl
    refine va_calli (va_runV (As := [.int 1]) (rest := []) ⟨hx, hb, hml, hown, hts⟩ (m_X4_goesWell l G q H.size om am th sa (nI nf) mi 1) (cwV 1 hts gX4_script_X4_goesWell rfl rfl rfl (by decide +kernel) ⟨Nat.le_of_ble_eq_true rfl, Nat.le_of_ble_eq_true rfl⟩) ⟨preW_blind, (va_recv hK hPc (ci := 4) (q0 := 0) rfl rfl), preW_start hPc hK hDc hNF⟩ rfl rfl hl.1 rfl (lv_room (Nat.le_of_ble_eq_true rfl)) dX4_script_53 ⟨(Nat.zero_le _), (Nat.zero_le _)⟩) hS (fun q _ h => hFc q h) hFc (fun gr15 u9 t9 H1 locs ht9 hv9 hw hB9 hz9 hk9 hS => ?_)
    obtain ⟨⟩ := u9
    obtain ⟨hP1, hD1⟩ := hB9
    rw [ht9] at hP1
    obtain ⟨hP, hD⟩ := va_join (wr := []) (w1 := [(om, .inr (4, [.int 1, .int sa, .ref (am 0), .ref (am 1), .double mi, .ref (am 2), .ref (am 3), .ref (am 4), .int (nI nf), .ref (am 5), .ref (am 6), .ref (am 7), .ref (am 8), .ref (am 9), .ref (am 10), .ref (am 11), .ref (am 12), .ref (am 13), .ref (am 14), .ref (am 15), .ref (am 16), .ref (am 17), .ref (am 18), .ref (am 19)]))]) hP hD [0] [] rfl rfl (by decide) (by decide) hk9 hFc hP1 hD1
    generalize H1 = H at hP hS ⊢
    have hP : va_P G vwCl [(om, .inr (4, [.int 1, .int sa, .ref (am 0), .ref (am 1), .double mi, .ref (am 2), .ref (am 3), .ref (am 4), .int (nI nf), .ref (am 5), .ref (am 6), .ref (am 7), .ref (am 8), .ref (am 9), .ref (am 10), .ref (am 11), .ref (am 12), .ref (am 13), .ref (am 14), .ref (am 15), .ref (am 16), .ref (am 17), .ref (am 18), .ref (am 19)]))] H := hP
    have hD : va_D A [(om, .inr (4, [.int 1, .int sa, .ref (am 0), .ref (am 1), .double mi, .ref (am 2), .ref (am 3), .ref (am 4), .int (nI nf), .ref (am 5), .ref (am 6), .ref (am 7), .ref (am 8), .ref (am 9), .ref (am 10), .ref (am 11), .ref (am 12), .ref (am 13), .ref (am 14), .ref (am 15), .ref (am 16), .ref (am 17), .ref (am 18), .ref (am 19)]))] := hD
    obtain rfl : gr15 = 0 := hw.trans (by decide)
    refine lv_if_ne (tgt := 61) hx hb dX4_script_56 (by decide) (fun h => absurd (by decide) h) (fun _ => ?_)
    refine lv_iconst (v := 0) hx hb dX4_script_59 (by decide) ?_
    have hP9 := hP
    have hD9 := hD
    exact W.iret (v := 0) hx hb hr (fun t ht hW => ⟨⟨0, 1, rfl, by dsimp only; unfold scriptC; rw [if_pos ci3, if_neg ci12], by rw [ht]; exact hP9, hD9⟩, hS.F ht⟩) hS.2.2 dX4_script_60
  obtain rfl : ri10 = 1 := hw.trans (if_pos ci12)
  refine lv_if_eq (tgt := 25) hx hb dX4_script_18 (by decide) (fun h => absurd h (by decide)) (fun _ => ?_)
  refine lv_iconst (v := 1) hx hb dX4_script_21 (by decide) ?_
  refine lv_goto (tgt := 26) hx hb dX4_script_22 (by decide) ?_
  refine lv_istore_n (lv' := [(3, .int 1), (0, .ref om), (1, .int xa), (2, .int xb)]) hx hb dX4_script_26 rfl hl (by decide) rfl (fun ls hl => ?_)
  refine lv_aload_n hx hb dX4_script_27 rfl (lv_at hl 1 rfl) ?_
  refine lv_iload_n hx hb dX4_script_28 rfl (lv_at hl 0 rfl) ?_
  refine lv_if_ne (tgt := 36) hx hb dX4_script_29 (by decide) (fun _ => ?_) (fun h => absurd h (by decide))
  refine lv_aload_n hx hb dX4_script_36 rfl (lv_at hl 1 rfl) ?_
  refine va_get (D := G) (ci := 4) (v := .int sa) (C := RX4) (T := TX4) (N := 24) hx hb hts in_X4_script_X4 hown hK hP 0 rfl rfl 1 (by decide) (hts (.fieldLink RX4 130 "EchoBenchModel" "samples" "I") (by decide +kernel)) (fun _ h9 => h9) rfl dX4_script_37 ?_
  refine lv_iload_n hx hb dX4_script_40 rfl (lv_at hl 3 rfl) ?_
  refine lv_iadd hx hb dX4_script_41 ?_
  refine lv_topi (fun x20 ex20 => ?_)
  refine lv_sipush (v := 2000) hx hb dX4_script_42 (by decide) ?_
  have hsum : x20 = sa + xb := ex20
  refine lv_icmp_le (tgt := 52) hx hb dX4_script_45 (by decide) (fun c9 => ?_) (fun c9 => ?_)
  · skip
    rw [hsum] at c9
    exact absurd (by unfold scriptC; rw [if_pos ci3, if_pos ci12, if_pos c9]) hc
  · skip
    rw [hsum] at c9
    refine lv_iconst (v := 2) hx hb dX4_script_48 (by decide) ?_
    refine lv_goto (tgt := 53) hx hb dX4_script_49 (by decide) ?_
    have hPc := hP.sub (ws' := [(om, .inr (4, [.int th, .int sa, .ref (am 0), .ref (am 1), .double mi, .ref (am 2), .ref (am 3), .ref (am 4), .int (nI nf), .ref (am 5), .ref (am 6), .ref (am 7), .ref (am 8), .ref (am 9), .ref (am 10), .ref (am 11), .ref (am 12), .ref (am 13), .ref (am 14), .ref (am 15), .ref (am 16), .ref (am 17), .ref (am 18), .ref (am 19)]))]) [0] rfl
    have hDc := hD.sub (ws' := [(om, .inr (4, [.int th, .int sa, .ref (am 0), .ref (am 1), .double mi, .ref (am 2), .ref (am 3), .ref (am 4), .int (nI nf), .ref (am 5), .ref (am 6), .ref (am 7), .ref (am 8), .ref (am 9), .ref (am 10), .ref (am 11), .ref (am 12), .ref (am 13), .ref (am 14), .ref (am 15), .ref (am 16), .ref (am 17), .ref (am 18), .ref (am 19)]))]) [0] (by decide) rfl
    have hFc := va_free (wc := [(om, .inr (4, [.int th, .int sa, .ref (am 0), .ref (am 1), .double mi, .ref (am 2), .ref (am 3), .ref (am 4), .int (nI nf), .ref (am 5), .ref (am 6), .ref (am 7), .ref (am 8), .ref (am 9), .ref (am 10), .ref (am 11), .ref (am 12), .ref (am 13), .ref (am 14), .ref (am 15), .ref (am 16), .ref (am 17), .ref (am 18), .ref (am 19)]))]) hD hS hA [0] rfl
    refine va_calli (va_runV (As := [.int 2]) (rest := []) ⟨hx, hb, hml, hown, hts⟩ (m_X4_goesWell l G q H.size om am th sa (nI nf) mi 2) (cwV 1 hts gX4_script_X4_goesWell rfl rfl rfl (by decide +kernel) ⟨Nat.le_of_ble_eq_true rfl, Nat.le_of_ble_eq_true rfl⟩) ⟨preW_blind, (va_recv hK hPc (ci := 4) (q0 := 0) rfl rfl), preW_start hPc hK hDc hNF⟩ rfl rfl hl.1 rfl (lv_room (Nat.le_of_ble_eq_true rfl)) dX4_script_53 ⟨(Nat.zero_le _), (Nat.zero_le _)⟩) hS (fun q _ h => hFc q h) hFc (fun gr21 u9 t9 H1 locs ht9 hv9 hw hB9 hz9 hk9 hS => ?_)
    obtain ⟨⟩ := u9
    obtain ⟨hP1, hD1⟩ := hB9
    rw [ht9] at hP1
    obtain ⟨hP, hD⟩ := va_join (wr := []) (w1 := [(om, .inr (4, [.int 2, .int sa, .ref (am 0), .ref (am 1), .double mi, .ref (am 2), .ref (am 3), .ref (am 4), .int (nI nf), .ref (am 5), .ref (am 6), .ref (am 7), .ref (am 8), .ref (am 9), .ref (am 10), .ref (am 11), .ref (am 12), .ref (am 13), .ref (am 14), .ref (am 15), .ref (am 16), .ref (am 17), .ref (am 18), .ref (am 19)]))]) hP hD [0] [] rfl rfl (by decide) (by decide) hk9 hFc hP1 hD1
    generalize H1 = H at hP hS ⊢
    have hP : va_P G vwCl [(om, .inr (4, [.int 2, .int sa, .ref (am 0), .ref (am 1), .double mi, .ref (am 2), .ref (am 3), .ref (am 4), .int (nI nf), .ref (am 5), .ref (am 6), .ref (am 7), .ref (am 8), .ref (am 9), .ref (am 10), .ref (am 11), .ref (am 12), .ref (am 13), .ref (am 14), .ref (am 15), .ref (am 16), .ref (am 17), .ref (am 18), .ref (am 19)]))] H := hP
    have hD : va_D A [(om, .inr (4, [.int 2, .int sa, .ref (am 0), .ref (am 1), .double mi, .ref (am 2), .ref (am 3), .ref (am 4), .int (nI nf), .ref (am 5), .ref (am 6), .ref (am 7), .ref (am 8), .ref (am 9), .ref (am 10), .ref (am 11), .ref (am 12), .ref (am 13), .ref (am 14), .ref (am 15), .ref (am 16), .ref (am 17), .ref (am 18), .ref (am 19)]))] := hD
    obtain rfl : gr21 = 0 := hw.trans (by decide)
    refine lv_if_ne (tgt := 61) hx hb dX4_script_56 (by decide) (fun h => absurd (by decide) h) (fun _ => ?_)
    refine lv_iconst (v := 0) hx hb dX4_script_59 (by decide) ?_
    have hP9 := hP
    have hD9 := hD
    exact W.iret (v := 0) hx hb hr (fun t ht hW => ⟨⟨0, 2, rfl, by dsimp only; unfold scriptC; rw [if_pos ci3, if_pos ci12, if_neg c9], by rw [ht]; exact hP9, hD9⟩, hS.F ht⟩) hS.2.2 dX4_script_60

theorem in_X4_weight_X4 : ∀ w ∈ wsX40, w ∈ wsX4_weight := by decide +kernel
set_option maxHeartbeats 4000000 in
set_option maxRecDepth 100000 in
/-- weight: where it throws -/
theorem m_X4_weight_no (l : Launch) (G : va_G) (q : Nat → ClassId) (sz : Nat) (om : Nat) (am : Nat → Nat) (th sa : Int32) (mi : UInt64) (nf : Nat) (f xa : Int32) (Ti : Nat → Int32) (hnf : nf ≤ 6) (hc : ¬ weightC f xa (nI nf) (Ti (tn f)) = 0) : Met l yX4_weight wsX4_weight ({ frames := 2, cells := 0, slots := 0, locals := 43 } : Jvm.Room) (PreW G q [.ref om, .int f, .int xa] [(om, .inr (4, [.int th, .int sa, .ref (am 0), .ref (am 1), .double mi, .ref (am 2), .ref (am 3), .ref (am 4), .int (nI nf), .ref (am 5), .ref (am 6), .ref (am 7), .ref (am 8), .ref (am 9), .ref (am 10), .ref (am 11), .ref (am 12), .ref (am 13), .ref (am 14), .ref (am 15), .ref (am 16), .ref (am 17), .ref (am 18), .ref (am 19)])), ((am 6), aI q 6 Ti)] sz) (va_Qd (fun (_ : UInt64) (u : Int32) => u = weightC f xa (nI nf) (Ti (tn f))) (fun (u : Int32) t => EndA G (va_A [(om, .inr (4, [.int th, .int sa, .ref (am 0), .ref (am 1), .double mi, .ref (am 2), .ref (am 3), .ref (am 4), .int (nI nf), .ref (am 5), .ref (am 6), .ref (am 7), .ref (am 8), .ref (am 9), .ref (am 10), .ref (am 11), .ref (am 12), .ref (am 13), .ref (am 14), .ref (am 15), .ref (am 16), .ref (am 17), .ref (am 18), .ref (am 19)])), ((am 6), aI q 6 Ti)] sz) [(om, .inr (4, [.int u, .int sa, .ref (am 0), .ref (am 1), .double mi, .ref (am 2), .ref (am 3), .ref (am 4), .int (nI nf), .ref (am 5), .ref (am 6), .ref (am 7), .ref (am 8), .ref (am 9), .ref (am 10), .ref (am 11), .ref (am 12), .ref (am 13), .ref (am 14), .ref (am 15), .ref (am 16), .ref (am 17), .ref (am 18), .ref (am 19)])), ((am 6), aI q 6 Ti)] t) (va_A [(om, .inr (4, [.int th, .int sa, .ref (am 0), .ref (am 1), .double mi, .ref (am 2), .ref (am 3), .ref (am 4), .int (nI nf), .ref (am 5), .ref (am 6), .ref (am 7), .ref (am 8), .ref (am 9), .ref (am 10), .ref (am 11), .ref (am 12), .ref (am 13), .ref (am 14), .ref (am 15), .ref (am 16), .ref (am 17), .ref (am 18), .ref (am 19)])), ((am 6), aI q 6 Ti)] sz)) 0 0 (va_A [(om, .inr (4, [.int th, .int sa, .ref (am 0), .ref (am 1), .double mi, .ref (am 2), .ref (am 3), .ref (am 4), .int (nI nf), .ref (am 5), .ref (am 6), .ref (am 7), .ref (am 8), .ref (am 9), .ref (am 10), .ref (am 11), .ref (am 12), .ref (am 13), .ref (am 14), .ref (am 15), .ref (am 16), .ref (am 17), .ref (am 18), .ref (am 19)])), ((am 6), aI q 6 Ti)] sz) := by
  refine Met.ofW (cc := cX4_weight) (maxL := 3) (ret := (some .double)) (by decide +kernel) rfl ?_
  intro p e s m args below meth c s₁ B hml hv
  obtain ⟨rfl, hsz, hP, hK, hD0, hNF⟩ := hv
  have hx := B.exec
  have hb := B.bytes
  have hr := B.returns
  have hts := atoms_spec (ws := wsX4_weight) B.pre
  have hown : s.vm.findClass RX4 = some m.cls := findClass_of_methodNamed B.named
  have hlocks := B.notSynchronized
  subst hsz
  have hD := hD0.self (sz := s.heap.size)
  generalize hAe : va_A [(om, .inr (4, [.int th, .int sa, .ref (am 0), .ref (am 1), .double mi, .ref (am 2), .ref (am 3), .ref (am 4), .int (nI nf), .ref (am 5), .ref (am 6), .ref (am 7), .ref (am 8), .ref (am 9), .ref (am 10), .ref (am 11), .ref (am 12), .ref (am 13), .ref (am 14), .ref (am 15), .ref (am 16), .ref (am 17), .ref (am 18), .ref (am 19)])), ((am 6), aI q 6 Ti)] s.heap.size = A at hD ⊢
  have hA : ∀ q : Nat, s.heap.size ≤ q → A q := fun q h => by rw [← hAe]; exact Or.inr h
  have hS : va_S A s.heap s.heap [] := va_S.rf
  have hP : va_P G vwCl [(om, .inr (4, [.int th, .int sa, .ref (am 0), .ref (am 1), .double mi, .ref (am 2), .ref (am 3), .ref (am 4), .int (nI nf), .ref (am 5), .ref (am 6), .ref (am 7), .ref (am 8), .ref (am 9), .ref (am 10), .ref (am 11), .ref (am 12), .ref (am 13), .ref (am 14), .ref (am 15), .ref (am 16), .ref (am 17), .ref (am 18), .ref (am 19)])), ((am 6), aI q 6 Ti)] s.heap := hP
  have hl := lv_entry ([.ref om, .int f, .int xa]) (n := 3) (Nat.le_of_ble_eq_true rfl)
  rw [lg_entry_eq]
  generalize (lg_sl ([.ref om, .int f, .int xa]) ++ List.replicate (3 - (lg_sl ([.ref om, .int f, .int xa])).length) Slot.unset).toArray = ls at hl ⊢
  have hl : lv_has ls 3 [(0, .ref om), (1, .int f), (2, .int xa)] := hl
  refine lv_aload_n hx hb dX4_weight_0 rfl (lv_at hl 0 rfl) ?_
  refine lv_aload_n hx hb dX4_weight_1 rfl (lv_at hl 0 rfl) ?_
  refine lv_iload_n hx hb dX4_weight_2 rfl (lv_at hl 1 rfl) ?_
  have hPc := hP.sub (ws' := [(om, .inr (4, [.int th, .int sa, .ref (am 0), .ref (am 1), .double mi, .ref (am 2), .ref (am 3), .ref (am 4), .int (nI nf), .ref (am 5), .ref (am 6), .ref (am 7), .ref (am 8), .ref (am 9), .ref (am 10), .ref (am 11), .ref (am 12), .ref (am 13), .ref (am 14), .ref (am 15), .ref (am 16), .ref (am 17), .ref (am 18), .ref (am 19)]))]) [0] rfl
  have hDc := hD.sub (ws' := [(om, .inr (4, [.int th, .int sa, .ref (am 0), .ref (am 1), .double mi, .ref (am 2), .ref (am 3), .ref (am 4), .int (nI nf), .ref (am 5), .ref (am 6), .ref (am 7), .ref (am 8), .ref (am 9), .ref (am 10), .ref (am 11), .ref (am 12), .ref (am 13), .ref (am 14), .ref (am 15), .ref (am 16), .ref (am 17), .ref (am 18), .ref (am 19)]))]) [0] (by decide) rfl
  have hFc := va_free (wc := [(om, .inr (4, [.int th, .int sa, .ref (am 0), .ref (am 1), .double mi, .ref (am 2), .ref (am 3), .ref (am 4), .int (nI nf), .ref (am 5), .ref (am 6), .ref (am 7), .ref (am 8), .ref (am 9), .ref (am 10), .ref (am 11), .ref (am 12), .ref (am 13), .ref (am 14), .ref (am 15), .ref (am 16), .ref (am 17), .ref (am 18), .ref (am 19)]))]) hD hS hA [0] rfl
  refine va_calli (va_runV (As := [.int f]) (rest := [.ref om]) ⟨hx, hb, hml, hown, hts⟩ (m_X4_isFilter l G q s.heap.size om am th sa (nI nf) mi f) (cwV 1 hts gX4_weight_X4_isFilter rfl rfl rfl (by decide +kernel) ⟨Nat.le_of_ble_eq_true rfl, Nat.le_of_ble_eq_true rfl⟩) ⟨preW_blind, (va_recv hK hPc (ci := 4) (q0 := 0) rfl rfl), preW_start hPc hK hDc hNF⟩ rfl rfl hl.1 rfl (lv_room (Nat.le_of_ble_eq_true rfl)) dX4_weight_3 ⟨(Nat.zero_le _), (Nat.zero_le _)⟩) hS (fun q _ h => hFc q h) hFc (fun rf1 u9 t9 H1 locs ht9 hv9 hw hB9 hz9 hk9 hS => ?_)
  obtain ⟨⟩ := u9
  obtain ⟨hP1, hD1⟩ := hB9
  rw [ht9] at hP1
  obtain ⟨hP, hD⟩ := va_join (wr := [((am 6), aI q 6 Ti)]) (w1 := [(om, .inr (4, [.int th, .int sa, .ref (am 0), .ref (am 1), .double mi, .ref (am 2), .ref (am 3), .ref (am 4), .int (nI nf), .ref (am 5), .ref (am 6), .ref (am 7), .ref (am 8), .ref (am 9), .ref (am 10), .ref (am 11), .ref (am 12), .ref (am 13), .ref (am 14), .ref (am 15), .ref (am 16), .ref (am 17), .ref (am 18), .ref (am 19)]))]) hP hD [0] [1] rfl rfl (by decide) (by decide) hk9 hFc hP1 hD1
  generalize H1 = H at hP hS ⊢
  have hP : va_P G vwCl [((am 6), aI q 6 Ti), (om, .inr (4, [.int th, .int sa, .ref (am 0), .ref (am 1), .double mi, .ref (am 2), .ref (am 3), .ref (am 4), .int (nI nf), .ref (am 5), .ref (am 6), .ref (am 7), .ref (am 8), .ref (am 9), .ref (am 10), .ref (am 11), .ref (am 12), .ref (am 13), .ref (am 14), .ref (am 15), .ref (am 16), .ref (am 17), .ref (am 18), .ref (am 19)]))] H := hP
  have hD : va_D A [((am 6), aI q 6 Ti), (om, .inr (4, [.int th, .int sa, .ref (am 0), .ref (am 1), .double mi, .ref (am 2), .ref (am 3), .ref (am 4), .int (nI nf), .ref (am 5), .ref (am 6), .ref (am 7), .ref (am 8), .ref (am 9), .ref (am 10), .ref (am 11), .ref (am 12), .ref (am 13), .ref (am 14), .ref (am 15), .ref (am 16), .ref (am 17), .ref (am 18), .ref (am 19)]))] := hD
  by_cases ci3 : isF f (nI nf)
  rotate_left
  · skip
    obtain rfl : rf1 = 0 := hw.trans (if_neg ci3)
    refine lv_if_eq (tgt := 29) hx hb dX4_weight_6 (by decide) (fun _ => ?_) (fun h => absurd (by decide) h)
    refine lv_iconst (v := 1) hx hb dX4_weight_29 (by decide) ?_
    have hPc := hP.sub (ws' := [(om, .inr (4, [.int th, .int sa, .ref (am 0), .ref (am 1), .double mi, .ref (am 2), .ref (am 3), .ref (am 4), .int (nI nf), .ref (am 5), .ref (am 6), .ref (am 7), .ref (am 8), .ref (am 9), .ref (am 10), .ref (am 11), .ref (am 12), .ref (am 13), .ref (am 14), .ref (am 15), .ref (am 16), .ref (am 17), .ref (am 18), .ref (am 19)]))]) [1] rfl
    have hDc := hD.sub (ws' := [(om, .inr (4, [.int th, .int sa, .ref (am 0), .ref (am 1), .double mi, .ref (am 2), .ref (am 3), .ref (am 4), .int (nI nf), .ref (am 5), .ref (am 6), .ref (am 7), .ref (am 8), .ref (am 9), .ref (am 10), .ref (am 11), .ref (am 12), .ref (am 13), .ref (am 14), .ref (am 15), .ref (am 16), .ref (am 17), .ref (am 18), .ref (am 19)]))]) [1] (by decide) rfl
    have hFc := va_free (wc := [(om, .inr (4, [.int th, .int sa, .ref (am 0), .ref (am 1), .double mi, .ref (am 2), .ref (am 3), .ref (am 4), .int (nI nf), .ref (am 5), .ref (am 6), .ref (am 7), .ref (am 8), .ref (am 9), .ref (am 10), .ref (am 11), .ref (am 12), .ref (am 13), .ref (am 14), .ref (am 15), .ref (am 16), .ref (am 17), .ref (am 18), .ref (am 19)]))]) hD hS hA [1] rfl
    refine va_calli (va_runV (As := [.int 1]) (rest := []) ⟨hx, hb, hml, hown, hts⟩ (m_X4_goesWell l G q H.size om am th sa (nI nf) mi 1) (cwV 1 hts gX4_weight_X4_goesWell rfl rfl rfl (by decide +kernel) ⟨Nat.le_of_ble_eq_true rfl, Nat.le_of_ble_eq_true rfl⟩) ⟨preW_blind, (va_recv hK hPc (ci := 4) (q0 := 0) rfl rfl), preW_start hPc hK hDc hNF⟩ rfl rfl hl.1 rfl (lv_room (Nat.le_of_ble_eq_true rfl)) dX4_weight_30 ⟨(Nat.zero_le _), (Nat.zero_le _)⟩) hS (fun q _ h => hFc q h) hFc (fun gr5 u9 t9 H1 locs ht9 hv9 hw hB9 hz9 hk9 hS => ?_)
    obtain ⟨⟩ := u9
    obtain ⟨hP1, hD1⟩ := hB9
    rw [ht9] at hP1
    obtain ⟨hP, hD⟩ := va_join (wr := [((am 6), aI q 6 Ti)]) (w1 := [(om, .inr (4, [.int 1, .int sa, .ref (am 0), .ref (am 1), .double mi, .ref (am 2), .ref (am 3), .ref (am 4), .int (nI nf), .ref (am 5), .ref (am 6), .ref (am 7), .ref (am 8), .ref (am 9), .ref (am 10), .ref (am 11), .ref (am 12), .ref (am 13), .ref (am 14), .ref (am 15), .ref (am 16), .ref (am 17), .ref (am 18), .ref (am 19)]))]) hP hD [1] [0] rfl rfl (by decide) (by decide) hk9 hFc hP1 hD1
    generalize H1 = H at hP hS ⊢
    have hP : va_P G vwCl [((am 6), aI q 6 Ti), (om, .inr (4, [.int 1, .int sa, .ref (am 0), .ref (am 1), .double mi, .ref (am 2), .ref (am 3), .ref (am 4), .int (nI nf), .ref (am 5), .ref (am 6), .ref (am 7), .ref (am 8), .ref (am 9), .ref (am 10), .ref (am 11), .ref (am 12), .ref (am 13), .ref (am 14), .ref (am 15), .ref (am 16), .ref (am 17), .ref (am 18), .ref (am 19)]))] H := hP
    have hD : va_D A [((am 6), aI q 6 Ti), (om, .inr (4, [.int 1, .int sa, .ref (am 0), .ref (am 1), .double mi, .ref (am 2), .ref (am 3), .ref (am 4), .int (nI nf), .ref (am 5), .ref (am 6), .ref (am 7), .ref (am 8), .ref (am 9), .ref (am 10), .ref (am 11), .ref (am 12), .ref (am 13), .ref (am 14), .ref (am 15), .ref (am 16), .ref (am 17), .ref (am 18), .ref (am 19)]))] := hD
    obtain rfl : gr5 = 0 := hw.trans (by decide)
    refine lv_if_eq (tgt := 50) hx hb dX4_weight_33 (by decide) (fun _ => ?_) (fun h => absurd (by decide) h)
    refine lv_dc0 hx hb dX4_weight_50 ?_
    have hP := hP.sub (ws' := [(om, .inr (4, [.int 1, .int sa, .ref (am 0), .ref (am 1), .double mi, .ref (am 2), .ref (am 3), .ref (am 4), .int (nI nf), .ref (am 5), .ref (am 6), .ref (am 7), .ref (am 8), .ref (am 9), .ref (am 10), .ref (am 11), .ref (am 12), .ref (am 13), .ref (am 14), .ref (am 15), .ref (am 16), .ref (am 17), .ref (am 18), .ref (am 19)])), ((am 6), aI q 6 Ti)]) [1, 0] rfl
    have hD := hD.sub (ws' := [(om, .inr (4, [.int 1, .int sa, .ref (am 0), .ref (am 1), .double mi, .ref (am 2), .ref (am 3), .ref (am 4), .int (nI nf), .ref (am 5), .ref (am 6), .ref (am 7), .ref (am 8), .ref (am 9), .ref (am 10), .ref (am 11), .ref (am 12), .ref (am 13), .ref (am 14), .ref (am 15), .ref (am 16), .ref (am 17), .ref (am 18), .ref (am 19)])), ((am 6), aI q 6 Ti)]) [1, 0] (by decide) rfl
    have hP9 := hP
    have hD9 := hD
    exact W.dret (v := 0) hx hb hr (fun t ht hW => ⟨⟨0, 1, rfl, by dsimp only; unfold weightC; rw [if_neg ci3], by rw [ht]; exact hP9, hD9⟩, hS.F ht⟩) hS.2.2 dX4_weight_51
  obtain rfl : rf1 = 1 := hw.trans (if_pos ci3)
  refine lv_if_eq (tgt := 29) hx hb dX4_weight_6 (by decide) (fun h => absurd h (by decide)) (fun _ => ?_)
  refine lv_iload_n hx hb dX4_weight_9 rfl (lv_at hl 2 rfl) ?_
  refine lv_iconst (v := 0) hx hb dX4_weight_10 (by decide) ?_
  refine lv_aload_n hx hb dX4_weight_11 rfl (lv_at hl 0 rfl) ?_
  refine va_get (D := G) (ci := 4) (v := .ref (am 6)) (C := RX4) (T := TX4) (N := 24) hx hb hts in_X4_weight_X4 hown hK hP 1 rfl rfl 10 (by decide) (hts (.fieldLink RX4 29 "EchoBenchModel" "taps" "[I") (by decide +kernel)) (fun _ h9 => h9) rfl dX4_weight_12 ?_
  refine lv_iload_n hx hb dX4_weight_15 rfl (lv_at hl 1 rfl) ?_
  have hf := in_m1 (by omega) ci3
  refine va_ialdJ hx hb hK hP 0 0 rfl rfl (j := (tn f)) hf.1 (by omega) (by decide) dX4_weight_16 ?_
  refine lv_iconst (v := 1) hx hb dX4_weight_17 (by decide) ?_
  refine lv_isub hx hb dX4_weight_18 ?_
  have hPc := hP.sub (ws' := []) [] rfl
  have hDc := hD.sub (ws' := []) [] (by decide) rfl
  have hFc := va_free (wc := []) hD hS hA [] rfl
  refine va_calli (va_runS (As := [.int xa, .int 0, .int (Ti (tn f) - 1)]) (rest := [.ref om]) ⟨hx, hb, hml, hown, hts⟩ (m_X4_in l G q H.size xa 0 (Ti (tn f) - 1)) (va_cwS 3 hts gX4_weight_X4_in rfl rfl rfl (by decide +kernel) ⟨Nat.le_of_ble_eq_true rfl, Nat.le_of_ble_eq_true rfl⟩) ⟨preW_blind, preW_start hPc hK hDc hNF⟩ rfl rfl hl.1 rfl (lv_room (Nat.le_of_ble_eq_true rfl)) dX4_weight_19 ⟨(Nat.zero_le _), (Nat.zero_le _)⟩) hS (fun q _ h => hFc q h) hFc (fun ri9 u9 t9 H1 locs ht9 hv9 hw hB9 hz9 hk9 hS => ?_)
  obtain ⟨⟩ := u9
  obtain ⟨hP1, hD1⟩ := hB9
  rw [ht9] at hP1
  obtain ⟨hP, hD⟩ := va_join (wr := [((am 6), aI q 6 Ti), (om, .inr (4, [.int th, .int sa, .ref (am 0), .ref (am 1), .double mi, .ref (am 2), .ref (am 3), .ref (am 4), .int (nI nf), .ref (am 5), .ref (am 6), .ref (am 7), .ref (am 8), .ref (am 9), .ref (am 10), .ref (am 11), .ref (am 12), .ref (am 13), .ref (am 14), .ref (am 15), .ref (am 16), .ref (am 17), .ref (am 18), .ref (am 19)]))]) (w1 := []) hP hD [] [0, 1] rfl rfl (by decide) (by decide) hk9 hFc hP1 hD1
  generalize H1 = H at hP hS ⊢
  have hP : va_P G vwCl [((am 6), aI q 6 Ti), (om, .inr (4, [.int th, .int sa, .ref (am 0), .ref (am 1), .double mi, .ref (am 2), .ref (am 3), .ref (am 4), .int (nI nf), .ref (am 5), .ref (am 6), .ref (am 7), .ref (am 8), .ref (am 9), .ref (am 10), .ref (am 11), .ref (am 12), .ref (am 13), .ref (am 14), .ref (am 15), .ref (am 16), .ref (am 17), .ref (am 18), .ref (am 19)]))] H := hP
  have hD : va_D A [((am 6), aI q 6 Ti), (om, .inr (4, [.int th, .int sa, .ref (am 0), .ref (am 1), .double mi, .ref (am 2), .ref (am 3), .ref (am 4), .int (nI nf), .ref (am 5), .ref (am 6), .ref (am 7), .ref (am 8), .ref (am 9), .ref (am 10), .ref (am 11), .ref (am 12), .ref (am 13), .ref (am 14), .ref (am 15), .ref (am 16), .ref (am 17), .ref (am 18), .ref (am 19)]))] := hD
  by_cases ci11 : 0 ≤ xa ∧ xa ≤ (Ti (tn f) - 1)
  · skip
    exact absurd (by unfold weightC; rw [if_pos ci3, if_pos ci11]) hc
  obtain rfl : ri9 = 0 := hw.trans (if_neg ci11)
  refine lv_if_eq (tgt := 29) hx hb dX4_weight_22 (by decide) (fun _ => ?_) (fun h => absurd (by decide) h)
  refine lv_iconst (v := 1) hx hb dX4_weight_29 (by decide) ?_
  have hPc := hP.sub (ws' := [(om, .inr (4, [.int th, .int sa, .ref (am 0), .ref (am 1), .double mi, .ref (am 2), .ref (am 3), .ref (am 4), .int (nI nf), .ref (am 5), .ref (am 6), .ref (am 7), .ref (am 8), .ref (am 9), .ref (am 10), .ref (am 11), .ref (am 12), .ref (am 13), .ref (am 14), .ref (am 15), .ref (am 16), .ref (am 17), .ref (am 18), .ref (am 19)]))]) [1] rfl
  have hDc := hD.sub (ws' := [(om, .inr (4, [.int th, .int sa, .ref (am 0), .ref (am 1), .double mi, .ref (am 2), .ref (am 3), .ref (am 4), .int (nI nf), .ref (am 5), .ref (am 6), .ref (am 7), .ref (am 8), .ref (am 9), .ref (am 10), .ref (am 11), .ref (am 12), .ref (am 13), .ref (am 14), .ref (am 15), .ref (am 16), .ref (am 17), .ref (am 18), .ref (am 19)]))]) [1] (by decide) rfl
  have hFc := va_free (wc := [(om, .inr (4, [.int th, .int sa, .ref (am 0), .ref (am 1), .double mi, .ref (am 2), .ref (am 3), .ref (am 4), .int (nI nf), .ref (am 5), .ref (am 6), .ref (am 7), .ref (am 8), .ref (am 9), .ref (am 10), .ref (am 11), .ref (am 12), .ref (am 13), .ref (am 14), .ref (am 15), .ref (am 16), .ref (am 17), .ref (am 18), .ref (am 19)]))]) hD hS hA [1] rfl
  refine va_calli (va_runV (As := [.int 1]) (rest := []) ⟨hx, hb, hml, hown, hts⟩ (m_X4_goesWell l G q H.size om am th sa (nI nf) mi 1) (cwV 1 hts gX4_weight_X4_goesWell rfl rfl rfl (by decide +kernel) ⟨Nat.le_of_ble_eq_true rfl, Nat.le_of_ble_eq_true rfl⟩) ⟨preW_blind, (va_recv hK hPc (ci := 4) (q0 := 0) rfl rfl), preW_start hPc hK hDc hNF⟩ rfl rfl hl.1 rfl (lv_room (Nat.le_of_ble_eq_true rfl)) dX4_weight_30 ⟨(Nat.zero_le _), (Nat.zero_le _)⟩) hS (fun q _ h => hFc q h) hFc (fun gr13 u9 t9 H1 locs ht9 hv9 hw hB9 hz9 hk9 hS => ?_)
  obtain ⟨⟩ := u9
  obtain ⟨hP1, hD1⟩ := hB9
  rw [ht9] at hP1
  obtain ⟨hP, hD⟩ := va_join (wr := [((am 6), aI q 6 Ti)]) (w1 := [(om, .inr (4, [.int 1, .int sa, .ref (am 0), .ref (am 1), .double mi, .ref (am 2), .ref (am 3), .ref (am 4), .int (nI nf), .ref (am 5), .ref (am 6), .ref (am 7), .ref (am 8), .ref (am 9), .ref (am 10), .ref (am 11), .ref (am 12), .ref (am 13), .ref (am 14), .ref (am 15), .ref (am 16), .ref (am 17), .ref (am 18), .ref (am 19)]))]) hP hD [1] [0] rfl rfl (by decide) (by decide) hk9 hFc hP1 hD1
  generalize H1 = H at hP hS ⊢
  have hP : va_P G vwCl [((am 6), aI q 6 Ti), (om, .inr (4, [.int 1, .int sa, .ref (am 0), .ref (am 1), .double mi, .ref (am 2), .ref (am 3), .ref (am 4), .int (nI nf), .ref (am 5), .ref (am 6), .ref (am 7), .ref (am 8), .ref (am 9), .ref (am 10), .ref (am 11), .ref (am 12), .ref (am 13), .ref (am 14), .ref (am 15), .ref (am 16), .ref (am 17), .ref (am 18), .ref (am 19)]))] H := hP
  have hD : va_D A [((am 6), aI q 6 Ti), (om, .inr (4, [.int 1, .int sa, .ref (am 0), .ref (am 1), .double mi, .ref (am 2), .ref (am 3), .ref (am 4), .int (nI nf), .ref (am 5), .ref (am 6), .ref (am 7), .ref (am 8), .ref (am 9), .ref (am 10), .ref (am 11), .ref (am 12), .ref (am 13), .ref (am 14), .ref (am 15), .ref (am 16), .ref (am 17), .ref (am 18), .ref (am 19)]))] := hD
  obtain rfl : gr13 = 0 := hw.trans (by decide)
  refine lv_if_eq (tgt := 50) hx hb dX4_weight_33 (by decide) (fun _ => ?_) (fun h => absurd (by decide) h)
  refine lv_dc0 hx hb dX4_weight_50 ?_
  have hP := hP.sub (ws' := [(om, .inr (4, [.int 1, .int sa, .ref (am 0), .ref (am 1), .double mi, .ref (am 2), .ref (am 3), .ref (am 4), .int (nI nf), .ref (am 5), .ref (am 6), .ref (am 7), .ref (am 8), .ref (am 9), .ref (am 10), .ref (am 11), .ref (am 12), .ref (am 13), .ref (am 14), .ref (am 15), .ref (am 16), .ref (am 17), .ref (am 18), .ref (am 19)])), ((am 6), aI q 6 Ti)]) [1, 0] rfl
  have hD := hD.sub (ws' := [(om, .inr (4, [.int 1, .int sa, .ref (am 0), .ref (am 1), .double mi, .ref (am 2), .ref (am 3), .ref (am 4), .int (nI nf), .ref (am 5), .ref (am 6), .ref (am 7), .ref (am 8), .ref (am 9), .ref (am 10), .ref (am 11), .ref (am 12), .ref (am 13), .ref (am 14), .ref (am 15), .ref (am 16), .ref (am 17), .ref (am 18), .ref (am 19)])), ((am 6), aI q 6 Ti)]) [1, 0] (by decide) rfl
  have hP9 := hP
  have hD9 := hD
  exact W.dret (v := 0) hx hb hr (fun t ht hW => ⟨⟨0, 1, rfl, by dsimp only; unfold weightC; rw [if_pos ci3, if_neg ci11], by rw [ht]; exact hP9, hD9⟩, hS.F ht⟩) hS.2.2 dX4_weight_51

set_option maxHeartbeats 4000000 in
set_option maxRecDepth 100000 in
/-- weight: where it goes well -/
theorem m_X4_weight (l : Launch) (G : va_G) (q : Nat → ClassId) (sz : Nat) (om : Nat) (am : Nat → Nat) (th sa : Int32) (mi : UInt64) (nf : Nat) (fx n j : Nat) (Ti : Nat → Int32) (Wt : Nat → UInt64) (hnf : nf ≤ 6) (hfx : fx < nf) (hn : n ≤ 8) (hT : Ti fx = nI n) (hj : j < n) : Met l yX4_weight wsX4_weight ({ frames := 2, cells := 0, slots := 0, locals := 43 } : Jvm.Room) (PreW G q [.ref om, .int (nI fx), .int (nI j)] [(om, .inr (4, [.int th, .int sa, .ref (am 0), .ref (am 1), .double mi, .ref (am 2), .ref (am 3), .ref (am 4), .int (nI nf), .ref (am 5), .ref (am 6), .ref (am 7), .ref (am 8), .ref (am 9), .ref (am 10), .ref (am 11), .ref (am 12), .ref (am 13), .ref (am 14), .ref (am 15), .ref (am 16), .ref (am 17), .ref (am 18), .ref (am 19)])), ((am 6), aI q 6 Ti), ((am 14), aD q 48 Wt)] sz) (va_Qd (fun (r : UInt64) (_ : Unit) => r = Wt (8 * fx + j)) (fun (_ : Unit) t => EndA G (va_A [(om, .inr (4, [.int th, .int sa, .ref (am 0), .ref (am 1), .double mi, .ref (am 2), .ref (am 3), .ref (am 4), .int (nI nf), .ref (am 5), .ref (am 6), .ref (am 7), .ref (am 8), .ref (am 9), .ref (am 10), .ref (am 11), .ref (am 12), .ref (am 13), .ref (am 14), .ref (am 15), .ref (am 16), .ref (am 17), .ref (am 18), .ref (am 19)])), ((am 6), aI q 6 Ti), ((am 14), aD q 48 Wt)] sz) [(om, .inr (4, [.int 0, .int sa, .ref (am 0), .ref (am 1), .double mi, .ref (am 2), .ref (am 3), .ref (am 4), .int (nI nf), .ref (am 5), .ref (am 6), .ref (am 7), .ref (am 8), .ref (am 9), .ref (am 10), .ref (am 11), .ref (am 12), .ref (am 13), .ref (am 14), .ref (am 15), .ref (am 16), .ref (am 17), .ref (am 18), .ref (am 19)])), ((am 6), aI q 6 Ti), ((am 14), aD q 48 Wt)] t) (va_A [(om, .inr (4, [.int th, .int sa, .ref (am 0), .ref (am 1), .double mi, .ref (am 2), .ref (am 3), .ref (am 4), .int (nI nf), .ref (am 5), .ref (am 6), .ref (am 7), .ref (am 8), .ref (am 9), .ref (am 10), .ref (am 11), .ref (am 12), .ref (am 13), .ref (am 14), .ref (am 15), .ref (am 16), .ref (am 17), .ref (am 18), .ref (am 19)])), ((am 6), aI q 6 Ti), ((am 14), aD q 48 Wt)] sz)) 0 0 (va_A [(om, .inr (4, [.int th, .int sa, .ref (am 0), .ref (am 1), .double mi, .ref (am 2), .ref (am 3), .ref (am 4), .int (nI nf), .ref (am 5), .ref (am 6), .ref (am 7), .ref (am 8), .ref (am 9), .ref (am 10), .ref (am 11), .ref (am 12), .ref (am 13), .ref (am 14), .ref (am 15), .ref (am 16), .ref (am 17), .ref (am 18), .ref (am 19)])), ((am 6), aI q 6 Ti), ((am 14), aD q 48 Wt)] sz) := by
  refine Met.ofW (cc := cX4_weight) (maxL := 3) (ret := (some .double)) (by decide +kernel) rfl ?_
  intro p e s m args below meth c s₁ B hml hv
  obtain ⟨rfl, hsz, hP, hK, hD0, hNF⟩ := hv
  have hx := B.exec
  have hb := B.bytes
  have hr := B.returns
  have hts := atoms_spec (ws := wsX4_weight) B.pre
  have hown : s.vm.findClass RX4 = some m.cls := findClass_of_methodNamed B.named
  have hlocks := B.notSynchronized
  subst hsz
  have hD := hD0.self (sz := s.heap.size)
  generalize hAe : va_A [(om, .inr (4, [.int th, .int sa, .ref (am 0), .ref (am 1), .double mi, .ref (am 2), .ref (am 3), .ref (am 4), .int (nI nf), .ref (am 5), .ref (am 6), .ref (am 7), .ref (am 8), .ref (am 9), .ref (am 10), .ref (am 11), .ref (am 12), .ref (am 13), .ref (am 14), .ref (am 15), .ref (am 16), .ref (am 17), .ref (am 18), .ref (am 19)])), ((am 6), aI q 6 Ti), ((am 14), aD q 48 Wt)] s.heap.size = A at hD ⊢
  have hA : ∀ q : Nat, s.heap.size ≤ q → A q := fun q h => by rw [← hAe]; exact Or.inr h
  have hS : va_S A s.heap s.heap [] := va_S.rf
  have hP : va_P G vwCl [(om, .inr (4, [.int th, .int sa, .ref (am 0), .ref (am 1), .double mi, .ref (am 2), .ref (am 3), .ref (am 4), .int (nI nf), .ref (am 5), .ref (am 6), .ref (am 7), .ref (am 8), .ref (am 9), .ref (am 10), .ref (am 11), .ref (am 12), .ref (am 13), .ref (am 14), .ref (am 15), .ref (am 16), .ref (am 17), .ref (am 18), .ref (am 19)])), ((am 6), aI q 6 Ti), ((am 14), aD q 48 Wt)] s.heap := hP
  have hl := lv_entry ([.ref om, .int (nI fx), .int (nI j)]) (n := 3) (Nat.le_of_ble_eq_true rfl)
  rw [lg_entry_eq]
  generalize (lg_sl ([.ref om, .int (nI fx), .int (nI j)]) ++ List.replicate (3 - (lg_sl ([.ref om, .int (nI fx), .int (nI j)])).length) Slot.unset).toArray = ls at hl ⊢
  have hl : lv_has ls 3 [(0, .ref om), (1, .int (nI fx)), (2, .int (nI j))] := hl
  refine lv_aload_n hx hb dX4_weight_0 rfl (lv_at hl 0 rfl) ?_
  refine lv_aload_n hx hb dX4_weight_1 rfl (lv_at hl 0 rfl) ?_
  refine lv_iload_n hx hb dX4_weight_2 rfl (lv_at hl 1 rfl) ?_
  have hPc := hP.sub (ws' := [(om, .inr (4, [.int th, .int sa, .ref (am 0), .ref (am 1), .double mi, .ref (am 2), .ref (am 3), .ref (am 4), .int (nI nf), .ref (am 5), .ref (am 6), .ref (am 7), .ref (am 8), .ref (am 9), .ref (am 10), .ref (am 11), .ref (am 12), .ref (am 13), .ref (am 14), .ref (am 15), .ref (am 16), .ref (am 17), .ref (am 18), .ref (am 19)]))]) [0] rfl
  have hDc := hD.sub (ws' := [(om, .inr (4, [.int th, .int sa, .ref (am 0), .ref (am 1), .double mi, .ref (am 2), .ref (am 3), .ref (am 4), .int (nI nf), .ref (am 5), .ref (am 6), .ref (am 7), .ref (am 8), .ref (am 9), .ref (am 10), .ref (am 11), .ref (am 12), .ref (am 13), .ref (am 14), .ref (am 15), .ref (am 16), .ref (am 17), .ref (am 18), .ref (am 19)]))]) [0] (by decide) rfl
  have hFc := va_free (wc := [(om, .inr (4, [.int th, .int sa, .ref (am 0), .ref (am 1), .double mi, .ref (am 2), .ref (am 3), .ref (am 4), .int (nI nf), .ref (am 5), .ref (am 6), .ref (am 7), .ref (am 8), .ref (am 9), .ref (am 10), .ref (am 11), .ref (am 12), .ref (am 13), .ref (am 14), .ref (am 15), .ref (am 16), .ref (am 17), .ref (am 18), .ref (am 19)]))]) hD hS hA [0] rfl
  refine va_calli (va_runV (As := [.int (nI fx)]) (rest := [.ref om]) ⟨hx, hb, hml, hown, hts⟩ (m_X4_isFilter l G q s.heap.size om am th sa (nI nf) mi (nI fx)) (cwV 1 hts gX4_weight_X4_isFilter rfl rfl rfl (by decide +kernel) ⟨Nat.le_of_ble_eq_true rfl, Nat.le_of_ble_eq_true rfl⟩) ⟨preW_blind, (va_recv hK hPc (ci := 4) (q0 := 0) rfl rfl), preW_start hPc hK hDc hNF⟩ rfl rfl hl.1 rfl (lv_room (Nat.le_of_ble_eq_true rfl)) dX4_weight_3 ⟨(Nat.zero_le _), (Nat.zero_le _)⟩) hS (fun q _ h => hFc q h) hFc (fun rf1 u9 t9 H1 locs ht9 hv9 hw hB9 hz9 hk9 hS => ?_)
  obtain ⟨⟩ := u9
  obtain ⟨hP1, hD1⟩ := hB9
  rw [ht9] at hP1
  obtain ⟨hP, hD⟩ := va_join (wr := [((am 6), aI q 6 Ti), ((am 14), aD q 48 Wt)]) (w1 := [(om, .inr (4, [.int th, .int sa, .ref (am 0), .ref (am 1), .double mi, .ref (am 2), .ref (am 3), .ref (am 4), .int (nI nf), .ref (am 5), .ref (am 6), .ref (am 7), .ref (am 8), .ref (am 9), .ref (am 10), .ref (am 11), .ref (am 12), .ref (am 13), .ref (am 14), .ref (am 15), .ref (am 16), .ref (am 17), .ref (am 18), .ref (am 19)]))]) hP hD [0] [1, 2] rfl rfl (by decide) (by decide) hk9 hFc hP1 hD1
  generalize H1 = H at hP hS ⊢
  have hP : va_P G vwCl [((am 6), aI q 6 Ti), ((am 14), aD q 48 Wt), (om, .inr (4, [.int th, .int sa, .ref (am 0), .ref (am 1), .double mi, .ref (am 2), .ref (am 3), .ref (am 4), .int (nI nf), .ref (am 5), .ref (am 6), .ref (am 7), .ref (am 8), .ref (am 9), .ref (am 10), .ref (am 11), .ref (am 12), .ref (am 13), .ref (am 14), .ref (am 15), .ref (am 16), .ref (am 17), .ref (am 18), .ref (am 19)]))] H := hP
  have hD : va_D A [((am 6), aI q 6 Ti), ((am 14), aD q 48 Wt), (om, .inr (4, [.int th, .int sa, .ref (am 0), .ref (am 1), .double mi, .ref (am 2), .ref (am 3), .ref (am 4), .int (nI nf), .ref (am 5), .ref (am 6), .ref (am 7), .ref (am 8), .ref (am 9), .ref (am 10), .ref (am 11), .ref (am 12), .ref (am 13), .ref (am 14), .ref (am 15), .ref (am 16), .ref (am 17), .ref (am 18), .ref (am 19)]))] := hD
  obtain rfl : rf1 = 1 := hw.trans (if_pos (m1_in (by omega) hfx))
  refine lv_if_eq (tgt := 29) hx hb dX4_weight_6 (by decide) (fun h => absurd h (by decide)) (fun _ => ?_)
  refine lv_iload_n hx hb dX4_weight_9 rfl (lv_at hl 2 rfl) ?_
  refine lv_iconst (v := 0) hx hb dX4_weight_10 (by decide) ?_
  refine lv_aload_n hx hb dX4_weight_11 rfl (lv_at hl 0 rfl) ?_
  refine va_get (D := G) (ci := 4) (v := .ref (am 6)) (C := RX4) (T := TX4) (N := 24) hx hb hts in_X4_weight_X4 hown hK hP 2 rfl rfl 10 (by decide) (hts (.fieldLink RX4 29 "EchoBenchModel" "taps" "[I") (by decide +kernel)) (fun _ h9 => h9) rfl dX4_weight_12 ?_
  refine lv_iload_n hx hb dX4_weight_15 rfl (lv_at hl 1 rfl) ?_
  refine va_ialdJ hx hb hK hP 0 0 rfl rfl (j := fx) rfl (by omega) (by decide) dX4_weight_16 ?_
  rw [hT]
  refine lv_iconst (v := 1) hx hb dX4_weight_17 (by decide) ?_
  refine lv_isub hx hb dX4_weight_18 ?_
  have hPc := hP.sub (ws' := []) [] rfl
  have hDc := hD.sub (ws' := []) [] (by decide) rfl
  have hFc := va_free (wc := []) hD hS hA [] rfl
  refine va_calli (va_runS (As := [.int (nI j), .int 0, .int ((nI n) - 1)]) (rest := [.ref om]) ⟨hx, hb, hml, hown, hts⟩ (m_X4_in l G q H.size (nI j) 0 ((nI n) - 1)) (va_cwS 3 hts gX4_weight_X4_in rfl rfl rfl (by decide +kernel) ⟨Nat.le_of_ble_eq_true rfl, Nat.le_of_ble_eq_true rfl⟩) ⟨preW_blind, preW_start hPc hK hDc hNF⟩ rfl rfl hl.1 rfl (lv_room (Nat.le_of_ble_eq_true rfl)) dX4_weight_19 ⟨(Nat.zero_le _), (Nat.zero_le _)⟩) hS (fun q _ h => hFc q h) hFc (fun ri4 u9 t9 H1 locs ht9 hv9 hw hB9 hz9 hk9 hS => ?_)
  obtain ⟨⟩ := u9
  obtain ⟨hP1, hD1⟩ := hB9
  rw [ht9] at hP1
  obtain ⟨hP, hD⟩ := va_join (wr := [((am 6), aI q 6 Ti), ((am 14), aD q 48 Wt), (om, .inr (4, [.int th, .int sa, .ref (am 0), .ref (am 1), .double mi, .ref (am 2), .ref (am 3), .ref (am 4), .int (nI nf), .ref (am 5), .ref (am 6), .ref (am 7), .ref (am 8), .ref (am 9), .ref (am 10), .ref (am 11), .ref (am 12), .ref (am 13), .ref (am 14), .ref (am 15), .ref (am 16), .ref (am 17), .ref (am 18), .ref (am 19)]))]) (w1 := []) hP hD [] [0, 1, 2] rfl rfl (by decide) (by decide) hk9 hFc hP1 hD1
  generalize H1 = H at hP hS ⊢
  have hP : va_P G vwCl [((am 6), aI q 6 Ti), ((am 14), aD q 48 Wt), (om, .inr (4, [.int th, .int sa, .ref (am 0), .ref (am 1), .double mi, .ref (am 2), .ref (am 3), .ref (am 4), .int (nI nf), .ref (am 5), .ref (am 6), .ref (am 7), .ref (am 8), .ref (am 9), .ref (am 10), .ref (am 11), .ref (am 12), .ref (am 13), .ref (am 14), .ref (am 15), .ref (am 16), .ref (am 17), .ref (am 18), .ref (am 19)]))] H := hP
  have hD : va_D A [((am 6), aI q 6 Ti), ((am 14), aD q 48 Wt), (om, .inr (4, [.int th, .int sa, .ref (am 0), .ref (am 1), .double mi, .ref (am 2), .ref (am 3), .ref (am 4), .int (nI nf), .ref (am 5), .ref (am 6), .ref (am 7), .ref (am 8), .ref (am 9), .ref (am 10), .ref (am 11), .ref (am 12), .ref (am 13), .ref (am 14), .ref (am 15), .ref (am 16), .ref (am 17), .ref (am 18), .ref (am 19)]))] := hD
  obtain rfl : ri4 = 1 := hw.trans (if_pos (m1_in (by omega) hj))
  refine lv_if_eq (tgt := 29) hx hb dX4_weight_22 (by decide) (fun h => absurd h (by decide)) (fun _ => ?_)
  refine lv_iconst (v := 0) hx hb dX4_weight_25 (by decide) ?_
  refine lv_goto (tgt := 30) hx hb dX4_weight_26 (by decide) ?_
  have hPc := hP.sub (ws' := [(om, .inr (4, [.int th, .int sa, .ref (am 0), .ref (am 1), .double mi, .ref (am 2), .ref (am 3), .ref (am 4), .int (nI nf), .ref (am 5), .ref (am 6), .ref (am 7), .ref (am 8), .ref (am 9), .ref (am 10), .ref (am 11), .ref (am 12), .ref (am 13), .ref (am 14), .ref (am 15), .ref (am 16), .ref (am 17), .ref (am 18), .ref (am 19)]))]) [2] rfl
  have hDc := hD.sub (ws' := [(om, .inr (4, [.int th, .int sa, .ref (am 0), .ref (am 1), .double mi, .ref (am 2), .ref (am 3), .ref (am 4), .int (nI nf), .ref (am 5), .ref (am 6), .ref (am 7), .ref (am 8), .ref (am 9), .ref (am 10), .ref (am 11), .ref (am 12), .ref (am 13), .ref (am 14), .ref (am 15), .ref (am 16), .ref (am 17), .ref (am 18), .ref (am 19)]))]) [2] (by decide) rfl
  have hFc := va_free (wc := [(om, .inr (4, [.int th, .int sa, .ref (am 0), .ref (am 1), .double mi, .ref (am 2), .ref (am 3), .ref (am 4), .int (nI nf), .ref (am 5), .ref (am 6), .ref (am 7), .ref (am 8), .ref (am 9), .ref (am 10), .ref (am 11), .ref (am 12), .ref (am 13), .ref (am 14), .ref (am 15), .ref (am 16), .ref (am 17), .ref (am 18), .ref (am 19)]))]) hD hS hA [2] rfl
  refine va_calli (va_runV (As := [.int 0]) (rest := []) ⟨hx, hb, hml, hown, hts⟩ (m_X4_goesWell l G q H.size om am th sa (nI nf) mi 0) (cwV 1 hts gX4_weight_X4_goesWell rfl rfl rfl (by decide +kernel) ⟨Nat.le_of_ble_eq_true rfl, Nat.le_of_ble_eq_true rfl⟩) ⟨preW_blind, (va_recv hK hPc (ci := 4) (q0 := 0) rfl rfl), preW_start hPc hK hDc hNF⟩ rfl rfl hl.1 rfl (lv_room (Nat.le_of_ble_eq_true rfl)) dX4_weight_30 ⟨(Nat.zero_le _), (Nat.zero_le _)⟩) hS (fun q _ h => hFc q h) hFc (fun gr7 u9 t9 H1 locs ht9 hv9 hw hB9 hz9 hk9 hS => ?_)
  obtain ⟨⟩ := u9
  obtain ⟨hP1, hD1⟩ := hB9
  rw [ht9] at hP1
  obtain ⟨hP, hD⟩ := va_join (wr := [((am 6), aI q 6 Ti), ((am 14), aD q 48 Wt)]) (w1 := [(om, .inr (4, [.int 0, .int sa, .ref (am 0), .ref (am 1), .double mi, .ref (am 2), .ref (am 3), .ref (am 4), .int (nI nf), .ref (am 5), .ref (am 6), .ref (am 7), .ref (am 8), .ref (am 9), .ref (am 10), .ref (am 11), .ref (am 12), .ref (am 13), .ref (am 14), .ref (am 15), .ref (am 16), .ref (am 17), .ref (am 18), .ref (am 19)]))]) hP hD [2] [0, 1] rfl rfl (by decide) (by decide) hk9 hFc hP1 hD1
  generalize H1 = H at hP hS ⊢
  have hP : va_P G vwCl [((am 6), aI q 6 Ti), ((am 14), aD q 48 Wt), (om, .inr (4, [.int 0, .int sa, .ref (am 0), .ref (am 1), .double mi, .ref (am 2), .ref (am 3), .ref (am 4), .int (nI nf), .ref (am 5), .ref (am 6), .ref (am 7), .ref (am 8), .ref (am 9), .ref (am 10), .ref (am 11), .ref (am 12), .ref (am 13), .ref (am 14), .ref (am 15), .ref (am 16), .ref (am 17), .ref (am 18), .ref (am 19)]))] H := hP
  have hD : va_D A [((am 6), aI q 6 Ti), ((am 14), aD q 48 Wt), (om, .inr (4, [.int 0, .int sa, .ref (am 0), .ref (am 1), .double mi, .ref (am 2), .ref (am 3), .ref (am 4), .int (nI nf), .ref (am 5), .ref (am 6), .ref (am 7), .ref (am 8), .ref (am 9), .ref (am 10), .ref (am 11), .ref (am 12), .ref (am 13), .ref (am 14), .ref (am 15), .ref (am 16), .ref (am 17), .ref (am 18), .ref (am 19)]))] := hD
  obtain rfl : gr7 = 1 := hw.trans (by decide)
  refine lv_if_eq (tgt := 50) hx hb dX4_weight_33 (by decide) (fun h => absurd h (by decide)) (fun _ => ?_)
  refine lv_aload_n hx hb dX4_weight_36 rfl (lv_at hl 0 rfl) ?_
  refine va_get (D := G) (ci := 4) (v := .ref (am 14)) (C := RX4) (T := TX4) (N := 24) hx hb hts in_X4_weight_X4 hown hK hP 2 rfl rfl 18 (by decide) (hts (.fieldLink RX4 53 "EchoBenchModel" "weight" "[D") (by decide +kernel)) (fun _ h9 => h9) rfl dX4_weight_37 ?_
  refine lv_bipush (v := 8) hx hb dX4_weight_40 (by decide) ?_
  refine lv_iload_n hx hb dX4_weight_42 rfl (lv_at hl 1 rfl) ?_
  refine lv_imul hx hb dX4_weight_43 ?_
  refine lv_topi (fun x10 ex10 => ?_)
  obtain rfl : x10 = (nI (8 * fx)) := ex10.trans (nI_mul 8 fx)
  refine lv_iload_n hx hb dX4_weight_44 rfl (lv_at hl 2 rfl) ?_
  refine lv_iadd hx hb dX4_weight_45 ?_
  refine lv_topi (fun x11 ex11 => ?_)
  obtain rfl : x11 = (nI (8 * fx + j)) := ex11.trans (nI_add (8 * fx) j)
  refine va_daldJ hx hb hK hP 1 1 rfl rfl (j := (8 * fx + j)) rfl (by omega) (by decide) dX4_weight_46 ?_
  refine lv_goto (tgt := 51) hx hb dX4_weight_47 (by decide) ?_
  have hP := hP.sub (ws' := [(om, .inr (4, [.int 0, .int sa, .ref (am 0), .ref (am 1), .double mi, .ref (am 2), .ref (am 3), .ref (am 4), .int (nI nf), .ref (am 5), .ref (am 6), .ref (am 7), .ref (am 8), .ref (am 9), .ref (am 10), .ref (am 11), .ref (am 12), .ref (am 13), .ref (am 14), .ref (am 15), .ref (am 16), .ref (am 17), .ref (am 18), .ref (am 19)])), ((am 6), aI q 6 Ti), ((am 14), aD q 48 Wt)]) [2, 0, 1] rfl
  have hD := hD.sub (ws' := [(om, .inr (4, [.int 0, .int sa, .ref (am 0), .ref (am 1), .double mi, .ref (am 2), .ref (am 3), .ref (am 4), .int (nI nf), .ref (am 5), .ref (am 6), .ref (am 7), .ref (am 8), .ref (am 9), .ref (am 10), .ref (am 11), .ref (am 12), .ref (am 13), .ref (am 14), .ref (am 15), .ref (am 16), .ref (am 17), .ref (am 18), .ref (am 19)])), ((am 6), aI q 6 Ti), ((am 14), aD q 48 Wt)]) [2, 0, 1] (by decide) rfl
  have hP9 := hP
  have hD9 := hD
  exact W.dret (v := Wt (8 * fx + j)) hx hb hr (fun t ht hW => ⟨⟨Wt (8 * fx + j), (), rfl, rfl, by rw [ht]; exact hP9, hD9⟩, hS.F ht⟩) hS.2.2 dX4_weight_51

theorem in_X4_offBy_X4 : ∀ w ∈ wsX40, w ∈ wsX4_offBy := by decide +kernel
set_option maxHeartbeats 4000000 in
set_option maxRecDepth 100000 in
/-- offBy -/
theorem m_X4_offBy (l : Launch) (G : va_G) (q : Nat → ClassId) (sz : Nat) (om : Nat) (am : Nat → Nat) (th sa : Int32) (mi : UInt64) (nf : Nat) (fx n : Nat) (pa Ti : Nat → Int32) (Wt : Nat → UInt64) (hfx : fx < 6) (hn : n ≤ 8) (hT : Ti fx = nI n) : MetD lw_cs l yX4_offBy wsX4_offBy ({ frames := 0, cells := 0, slots := 0, locals := 0 } : Jvm.Room) (PreW G q [.ref om, .int (nI fx)] [(om, .inr (4, [.int th, .int sa, .ref (am 0), .ref (am 1), .double mi, .ref (am 2), .ref (am 3), .ref (am 4), .int (nI nf), .ref (am 5), .ref (am 6), .ref (am 7), .ref (am 8), .ref (am 9), .ref (am 10), .ref (am 11), .ref (am 12), .ref (am 13), .ref (am 14), .ref (am 15), .ref (am 16), .ref (am 17), .ref (am 18), .ref (am 19)])), ((am 0), aI q 8 pa), ((am 6), aI q 6 Ti), ((am 14), aD q 48 Wt)] sz) (va_Qd (fun (r : UInt64) (_ : Unit) => dV r = sOff n (fun k => dV (Wt (8 * fx + k))) pa) (fun (_ : Unit) t => EndA G (va_A [(om, .inr (4, [.int th, .int sa, .ref (am 0), .ref (am 1), .double mi, .ref (am 2), .ref (am 3), .ref (am 4), .int (nI nf), .ref (am 5), .ref (am 6), .ref (am 7), .ref (am 8), .ref (am 9), .ref (am 10), .ref (am 11), .ref (am 12), .ref (am 13), .ref (am 14), .ref (am 15), .ref (am 16), .ref (am 17), .ref (am 18), .ref (am 19)])), ((am 0), aI q 8 pa), ((am 6), aI q 6 Ti), ((am 14), aD q 48 Wt)] sz) [(om, .inr (4, [.int th, .int sa, .ref (am 0), .ref (am 1), .double mi, .ref (am 2), .ref (am 3), .ref (am 4), .int (nI nf), .ref (am 5), .ref (am 6), .ref (am 7), .ref (am 8), .ref (am 9), .ref (am 10), .ref (am 11), .ref (am 12), .ref (am 13), .ref (am 14), .ref (am 15), .ref (am 16), .ref (am 17), .ref (am 18), .ref (am 19)])), ((am 0), aI q 8 pa), ((am 6), aI q 6 Ti), ((am 14), aD q 48 Wt)] t) (va_A [(om, .inr (4, [.int th, .int sa, .ref (am 0), .ref (am 1), .double mi, .ref (am 2), .ref (am 3), .ref (am 4), .int (nI nf), .ref (am 5), .ref (am 6), .ref (am 7), .ref (am 8), .ref (am 9), .ref (am 10), .ref (am 11), .ref (am 12), .ref (am 13), .ref (am 14), .ref (am 15), .ref (am 16), .ref (am 17), .ref (am 18), .ref (am 19)])), ((am 0), aI q 8 pa), ((am 6), aI q 6 Ti), ((am 14), aD q 48 Wt)] sz)) 0 0 (va_A [(om, .inr (4, [.int th, .int sa, .ref (am 0), .ref (am 1), .double mi, .ref (am 2), .ref (am 3), .ref (am 4), .int (nI nf), .ref (am 5), .ref (am 6), .ref (am 7), .ref (am 8), .ref (am 9), .ref (am 10), .ref (am 11), .ref (am 12), .ref (am 13), .ref (am 14), .ref (am 15), .ref (am 16), .ref (am 17), .ref (am 18), .ref (am 19)])), ((am 0), aI q 8 pa), ((am 6), aI q 6 Ti), ((am 14), aD q 48 Wt)] sz) := by
  refine MetD.ofW (cc := cX4_offBy) (maxL := 7) (ret := (some .double)) (by decide +kernel) rfl ?_
  intro p e s m args below meth c s₁ B hml hv hd0
  obtain ⟨rfl, hsz, hP, hK, hD0, hNF⟩ := hv
  have hx := B.exec
  have hb := B.bytes
  have hr := B.returns
  have hts := atoms_spec (ws := wsX4_offBy) B.pre
  have hown : s.vm.findClass RX4 = some m.cls := findClass_of_methodNamed B.named
  have hlocks := B.notSynchronized
  subst hsz
  have hD := hD0.self (sz := s.heap.size)
  generalize hAe : va_A [(om, .inr (4, [.int th, .int sa, .ref (am 0), .ref (am 1), .double mi, .ref (am 2), .ref (am 3), .ref (am 4), .int (nI nf), .ref (am 5), .ref (am 6), .ref (am 7), .ref (am 8), .ref (am 9), .ref (am 10), .ref (am 11), .ref (am 12), .ref (am 13), .ref (am 14), .ref (am 15), .ref (am 16), .ref (am 17), .ref (am 18), .ref (am 19)])), ((am 0), aI q 8 pa), ((am 6), aI q 6 Ti), ((am 14), aD q 48 Wt)] s.heap.size = A at hD ⊢
  have hA : ∀ q : Nat, s.heap.size ≤ q → A q := fun q h => by rw [← hAe]; exact Or.inr h
  have hS : va_S A s.heap s.heap [] := va_S.rf
  have hP : va_P G vwCl [(om, .inr (4, [.int th, .int sa, .ref (am 0), .ref (am 1), .double mi, .ref (am 2), .ref (am 3), .ref (am 4), .int (nI nf), .ref (am 5), .ref (am 6), .ref (am 7), .ref (am 8), .ref (am 9), .ref (am 10), .ref (am 11), .ref (am 12), .ref (am 13), .ref (am 14), .ref (am 15), .ref (am 16), .ref (am 17), .ref (am 18), .ref (am 19)])), ((am 0), aI q 8 pa), ((am 6), aI q 6 Ti), ((am 14), aD q 48 Wt)] s.heap := hP
  have hl := lv_entry ([.ref om, .int (nI fx)]) (n := 7) (Nat.le_of_ble_eq_true rfl)
  rw [lg_entry_eq]
  generalize (lg_sl ([.ref om, .int (nI fx)]) ++ List.replicate (7 - (lg_sl ([.ref om, .int (nI fx)])).length) Slot.unset).toArray = ls at hl ⊢
  have hl : lv_has ls 7 [(0, .ref om), (1, .int (nI fx))] := hl
  have LOOP : ∀ (k : Nat) (j : Nat) (a : UInt64), j + k = n → dV a = smN (dV 0) (fun k => fMul (gapV (dV (Wt (8 * fx + k))) (pa k)) (gapV (dV (Wt (8 * fx + k))) (pa k))) j → ∀ (H : Heap) (locs : List Loc) (d0 : Drawn), s.drawn.sameBut d0 lw_cs → va_P G vwCl [(om, .inr (4, [.int th, .int sa, .ref (am 0), .ref (am 1), .double mi, .ref (am 2), .ref (am 3), .ref (am 4), .int (nI nf), .ref (am 5), .ref (am 6), .ref (am 7), .ref (am 8), .ref (am 9), .ref (am 10), .ref (am 11), .ref (am 12), .ref (am 13), .ref (am 14), .ref (am 15), .ref (am 16), .ref (am 17), .ref (am 18), .ref (am 19)])), ((am 0), aI q 8 pa), ((am 6), aI q 6 Ti), ((am 14), aD q 48 Wt)] H → va_D A [(om, .inr (4, [.int th, .int sa, .ref (am 0), .ref (am 1), .double mi, .ref (am 2), .ref (am 3), .ref (am 4), .int (nI nf), .ref (am 5), .ref (am 6), .ref (am 7), .ref (am 8), .ref (am 9), .ref (am 10), .ref (am 11), .ref (am 12), .ref (am 13), .ref (am 14), .ref (am 15), .ref (am 16), .ref (am 17), .ref (am 18), .ref (am 19)])), ((am 0), aI q 8 pa), ((am 6), aI q 6 Ti), ((am 14), aD q 48 Wt)] → va_S A s.heap H locs → ∀ (ls : Array Slot), lv_has ls 7 [(0, .ref om), (1, .int (nI fx)), (2, .double a), (4, .int (nI j))] → W p l e (headSpec wsX4_offBy ({ frames := 0, cells := 0, slots := 0, locals := 0 } : Jvm.Room)).room (s.setDrawn d0) m #[.ref om, .int (nI fx)] below meth c H locs 0 0 (MQD lw_cs below (va_Qd (fun (r : UInt64) (_ : Unit) => dV r = sOff n (fun k => dV (Wt (8 * fx + k))) pa) (fun (_ : Unit) t => EndA G A [(om, .inr (4, [.int th, .int sa, .ref (am 0), .ref (am 1), .double mi, .ref (am 2), .ref (am 3), .ref (am 4), .int (nI nf), .ref (am 5), .ref (am 6), .ref (am 7), .ref (am 8), .ref (am 9), .ref (am 10), .ref (am 11), .ref (am 12), .ref (am 13), .ref (am 14), .ref (am 15), .ref (am 16), .ref (am 17), .ref (am 18), .ref (am 19)])), ((am 0), aI q 8 pa), ((am 6), aI q 6 Ti), ((am 14), aD q 48 Wt)] t) A) #[.ref om, .int (nI fx)] s 0 0 A) (F0 m 5 ls []) := by
    intro k
    induction k with
    | zero =>
      intro j a hj ha H locs d0 hd0 hP hD hS ls hl
      refine lv_iload hx hb dX4_offBy_5 (lv_at hl 3 rfl) ?_
      refine lv_aload_n hx hb dX4_offBy_7 rfl (lv_at hl 0 rfl) ?_
      refine va_get (D := G) (ci := 4) (v := .ref (am 6)) (C := RX4) (T := TX4) (N := 24) hx hb (dr_words hts d0) in_X4_offBy_X4 hown hK hP 0 rfl rfl 10 (by decide) (dr_words hts d0 (.fieldLink RX4 29 "EchoBenchModel" "taps" "[I") (by decide +kernel)) (fun _ h9 => h9) rfl dX4_offBy_8 ?_
      refine lv_iload_n hx hb dX4_offBy_11 rfl (lv_at hl 1 rfl) ?_
      refine va_ialdJ (s := s.setDrawn d0) hx hb hK hP 2 0 rfl rfl (j := fx) rfl (by omega) (by decide) dX4_offBy_12 ?_
      rw [hT]
      refine lv_icmp_ge (tgt := 57) hx hb dX4_offBy_13 (by decide) (fun _ => ?_) (fun h => absurd (nI_le (by omega) (by omega)) h)
      refine lv_dload_n hx hb dX4_offBy_57 rfl (lv_at hl 2 rfl) ?_
      have hP9 := hP
      have hD9 := hD
      refine W.endD hd0 ?_
      exact W.dret (v := a) hx hb hr (fun t ht hW => ⟨⟨a, (), rfl, by dsimp only; rw [ha, show j = n by omega]; rfl, by rw [ht]; exact hP9, hD9⟩, hS.F ht⟩) hS.2.2 dX4_offBy_58
    | succ k ih =>
      intro j a hj ha H locs d0 hd0 hP hD hS ls hl
      refine lv_iload hx hb dX4_offBy_5 (lv_at hl 3 rfl) ?_
      refine lv_aload_n hx hb dX4_offBy_7 rfl (lv_at hl 0 rfl) ?_
      refine va_get (D := G) (ci := 4) (v := .ref (am 6)) (C := RX4) (T := TX4) (N := 24) hx hb (dr_words hts d0) in_X4_offBy_X4 hown hK hP 0 rfl rfl 10 (by decide) (dr_words hts d0 (.fieldLink RX4 29 "EchoBenchModel" "taps" "[I") (by decide +kernel)) (fun _ h9 => h9) rfl dX4_offBy_8 ?_
      refine lv_iload_n hx hb dX4_offBy_11 rfl (lv_at hl 1 rfl) ?_
      refine va_ialdJ (s := s.setDrawn d0) hx hb hK hP 2 0 rfl rfl (j := fx) rfl (by omega) (by decide) dX4_offBy_12 ?_
      rw [hT]
      refine lv_icmp_ge (tgt := 57) hx hb dX4_offBy_13 (by decide) (fun h => absurd h (nI_ge (by omega) (by omega))) (fun _ => ?_)
      refine lv_aload_n hx hb dX4_offBy_16 rfl (lv_at hl 0 rfl) ?_
      refine va_get (D := G) (ci := 4) (v := .ref (am 14)) (C := RX4) (T := TX4) (N := 24) hx hb (dr_words hts d0) in_X4_offBy_X4 hown hK hP 0 rfl rfl 18 (by decide) (dr_words hts d0 (.fieldLink RX4 53 "EchoBenchModel" "weight" "[D") (by decide +kernel)) (fun _ h9 => h9) rfl dX4_offBy_17 ?_
      refine lv_bipush (v := 8) hx hb dX4_offBy_20 (by decide) ?_
      refine lv_iload_n hx hb dX4_offBy_22 rfl (lv_at hl 1 rfl) ?_
      refine lv_imul hx hb dX4_offBy_23 ?_
      refine lv_topi (fun x3 ex3 => ?_)
      obtain rfl : x3 = (nI (8 * fx)) := ex3.trans (nI_mul 8 fx)
      refine lv_iload hx hb dX4_offBy_24 (lv_at hl 3 rfl) ?_
      refine lv_iadd hx hb dX4_offBy_26 ?_
      refine lv_topi (fun x4 ex4 => ?_)
      obtain rfl : x4 = (nI (8 * fx + j)) := ex4.trans (nI_add (8 * fx) j)
      refine va_daldJ (s := s.setDrawn d0) hx hb hK hP 3 1 rfl rfl (j := (8 * fx + j)) rfl (by omega) (by decide) dX4_offBy_27 ?_
      refine lv_aload_n hx hb dX4_offBy_28 rfl (lv_at hl 0 rfl) ?_
      refine va_get (D := G) (ci := 4) (v := .ref (am 0)) (C := RX4) (T := TX4) (N := 24) hx hb (dr_words hts d0) in_X4_offBy_X4 hown hK hP 0 rfl rfl 2 (by decide) (dr_words hts d0 (.fieldLink RX4 7 "EchoBenchModel" "path" "[I") (by decide +kernel)) (fun _ h9 => h9) rfl dX4_offBy_29 ?_
      refine lv_iload hx hb dX4_offBy_32 (lv_at hl 3 rfl) ?_
      refine va_ialdJ (s := s.setDrawn d0) hx hb hK hP 1 0 rfl rfl (j := j) rfl (by omega) (by decide) dX4_offBy_34 ?_
      refine lv_i2d hx hb dX4_offBy_35 ?_
      refine lv_ldc2d hx hb hown (dr_words hts d0 (.constantDouble RX4 97 4636737291354636288) (by decide +kernel)) dX4_offBy_36 ?_
      refine lv_ddiv_any hd0 lw_bits hx hb dX4_offBy_39 (fun r5 dr5 ar5 hr5 => ?_)
      have er5 := dV_div ar5
      refine lv_dsub_any hr5 lw_bits hx hb dX4_offBy_40 (fun r6 dr6 ar6 hr6 => ?_)
      have er6 := dV_sub ar6
      refine lv_dstore (lv' := [(5, .double r6), (0, .ref om), (1, .int (nI fx)), (2, .double a), (4, .int (nI j))]) hx hb dX4_offBy_41 hl (by decide) rfl (fun ls hl => ?_)
      refine lv_dload_n hx hb dX4_offBy_43 rfl (lv_at hl 3 rfl) ?_
      refine lv_dload hx hb dX4_offBy_44 (lv_at hl 0 rfl) ?_
      refine lv_dload hx hb dX4_offBy_46 (lv_at hl 0 rfl) ?_
      refine lv_dmul_any hr6 lw_bits hx hb dX4_offBy_48 (fun r7 dr7 ar7 hr7 => ?_)
      have er7 := dV_mul ar7
      refine lv_dadd_any hr7 lw_bits hx hb dX4_offBy_49 (fun r8 dr8 ar8 hr8 => ?_)
      have er8 := dV_add ar8
      refine lv_dstore_n (lv' := [(2, .double r8), (5, .double r6), (0, .ref om), (1, .int (nI fx)), (4, .int (nI j))]) hx hb dX4_offBy_50 rfl hl (by decide) rfl (fun ls hl => ?_)
      refine lv_iinc (v := nI (j + 1)) (lv' := [(4, .int (nI (j + 1))), (2, .double r8), (5, .double r6), (0, .ref om), (1, .int (nI fx))]) hx hb dX4_offBy_51 hl (k := 4) rfl (nI_succ _).symm (by decide) rfl (fun ls hl => ?_)
      refine lv_goto (tgt := 5) hx hb dX4_offBy_54 (by decide) ?_
      exact ih (j + 1) r8 (by omega) (by rw [er8, er7, er6, er5, ha]; rfl) _ _ _ hr8 (hP.sub [0, 1, 2, 3] rfl) (hD.sub [0, 1, 2, 3] (by decide) rfl) hS ls (lv_sub hl [3, 4, 1, 0] rfl)
  refine lv_dc0 hx hb dX4_offBy_0 ?_
  refine lv_dstore_n (lv' := [(2, .double 0), (0, .ref om), (1, .int (nI fx))]) hx hb dX4_offBy_1 rfl hl (by decide) rfl (fun ls hl => ?_)
  refine lv_iconst (v := 0) hx hb dX4_offBy_2 (by decide) ?_
  refine lv_istore (lv' := [(4, .int 0), (2, .double 0), (0, .ref om), (1, .int (nI fx))]) hx hb dX4_offBy_3 hl (by decide) rfl (fun ls hl => ?_)
  exact LOOP n 0 0 (by omega) rfl _ _ _ hd0 (hP.sub [0, 1, 2, 3] rfl) (hD.sub [0, 1, 2, 3] (by decide) rfl) hS ls (lv_sub hl [2, 3, 1, 0] rfl)

theorem in_X4_microphone_X4 : ∀ w ∈ wsX40, w ∈ wsX4_microphone := by decide +kernel
set_option maxHeartbeats 4000000 in
set_option maxRecDepth 100000 in
/-- microphone -/
theorem m_X4_microphone (l : Launch) (G : va_G) (q : Nat → ClassId) (sz : Nat) (om : Nat) (am : Nat → Nat) (th sa : Int32) (mi : UInt64) (nf : Nat)  : Met l yX4_microphone wsX4_microphone ({ frames := 0, cells := 0, slots := 0, locals := 0 } : Jvm.Room) (PreW G q [.ref om] [(om, .inr (4, [.int th, .int sa, .ref (am 0), .ref (am 1), .double mi, .ref (am 2), .ref (am 3), .ref (am 4), .int (nI nf), .ref (am 5), .ref (am 6), .ref (am 7), .ref (am 8), .ref (am 9), .ref (am 10), .ref (am 11), .ref (am 12), .ref (am 13), .ref (am 14), .ref (am 15), .ref (am 16), .ref (am 17), .ref (am 18), .ref (am 19)]))] sz) (va_Qd (fun (r : UInt64) (_ : Unit) => r = mi) (fun (_ : Unit) t => EndA G (va_A [(om, .inr (4, [.int th, .int sa, .ref (am 0), .ref (am 1), .double mi, .ref (am 2), .ref (am 3), .ref (am 4), .int (nI nf), .ref (am 5), .ref (am 6), .ref (am 7), .ref (am 8), .ref (am 9), .ref (am 10), .ref (am 11), .ref (am 12), .ref (am 13), .ref (am 14), .ref (am 15), .ref (am 16), .ref (am 17), .ref (am 18), .ref (am 19)]))] sz) [(om, .inr (4, [.int 0, .int sa, .ref (am 0), .ref (am 1), .double mi, .ref (am 2), .ref (am 3), .ref (am 4), .int (nI nf), .ref (am 5), .ref (am 6), .ref (am 7), .ref (am 8), .ref (am 9), .ref (am 10), .ref (am 11), .ref (am 12), .ref (am 13), .ref (am 14), .ref (am 15), .ref (am 16), .ref (am 17), .ref (am 18), .ref (am 19)]))] t) (va_A [(om, .inr (4, [.int th, .int sa, .ref (am 0), .ref (am 1), .double mi, .ref (am 2), .ref (am 3), .ref (am 4), .int (nI nf), .ref (am 5), .ref (am 6), .ref (am 7), .ref (am 8), .ref (am 9), .ref (am 10), .ref (am 11), .ref (am 12), .ref (am 13), .ref (am 14), .ref (am 15), .ref (am 16), .ref (am 17), .ref (am 18), .ref (am 19)]))] sz)) 0 0 (va_A [(om, .inr (4, [.int th, .int sa, .ref (am 0), .ref (am 1), .double mi, .ref (am 2), .ref (am 3), .ref (am 4), .int (nI nf), .ref (am 5), .ref (am 6), .ref (am 7), .ref (am 8), .ref (am 9), .ref (am 10), .ref (am 11), .ref (am 12), .ref (am 13), .ref (am 14), .ref (am 15), .ref (am 16), .ref (am 17), .ref (am 18), .ref (am 19)]))] sz) := by
  refine Met.ofW (cc := cX4_microphone) (maxL := 1) (ret := (some .double)) (by decide +kernel) rfl ?_
  intro p e s m args below meth c s₁ B hml hv
  obtain ⟨rfl, hsz, hP, hK, hD0, hNF⟩ := hv
  have hx := B.exec
  have hb := B.bytes
  have hr := B.returns
  have hts := atoms_spec (ws := wsX4_microphone) B.pre
  have hown : s.vm.findClass RX4 = some m.cls := findClass_of_methodNamed B.named
  have hlocks := B.notSynchronized
  subst hsz
  have hD := hD0.self (sz := s.heap.size)
  generalize hAe : va_A [(om, .inr (4, [.int th, .int sa, .ref (am 0), .ref (am 1), .double mi, .ref (am 2), .ref (am 3), .ref (am 4), .int (nI nf), .ref (am 5), .ref (am 6), .ref (am 7), .ref (am 8), .ref (am 9), .ref (am 10), .ref (am 11), .ref (am 12), .ref (am 13), .ref (am 14), .ref (am 15), .ref (am 16), .ref (am 17), .ref (am 18), .ref (am 19)]))] s.heap.size = A at hD ⊢
  have hA : ∀ q : Nat, s.heap.size ≤ q → A q := fun q h => by rw [← hAe]; exact Or.inr h
  have hS : va_S A s.heap s.heap [] := va_S.rf
  have hP : va_P G vwCl [(om, .inr (4, [.int th, .int sa, .ref (am 0), .ref (am 1), .double mi, .ref (am 2), .ref (am 3), .ref (am 4), .int (nI nf), .ref (am 5), .ref (am 6), .ref (am 7), .ref (am 8), .ref (am 9), .ref (am 10), .ref (am 11), .ref (am 12), .ref (am 13), .ref (am 14), .ref (am 15), .ref (am 16), .ref (am 17), .ref (am 18), .ref (am 19)]))] s.heap := hP
  have hl := lv_entry ([.ref om]) (n := 1) (Nat.le_of_ble_eq_true rfl)
  rw [lg_entry_eq]
  generalize (lg_sl ([.ref om]) ++ List.replicate (1 - (lg_sl ([.ref om])).length) Slot.unset).toArray = ls at hl ⊢
  have hl : lv_has ls 1 [(0, .ref om)] := hl
  refine lv_aload_n hx hb dX4_microphone_0 rfl (lv_at hl 0 rfl) ?_
  refine lv_iconst (v := 0) hx hb dX4_microphone_1 (by decide) ?_
  refine va_put (D := G) (ci := 4) (v := .int 0) (ty := .int) (C := RX4) (T := TX4) (N := 24) hx hb hts in_X4_microphone_X4 tyX4 tyX4_ok nmX4 hown hK hP hD hS 0 rfl rfl 0 (by decide) (hts (.fieldLink RX4 71 "EchoBenchModel" "thrown" "I") (by decide +kernel)) (fun _ h9 => h9) rfl (by decide +kernel) rfl rfl (Nat.le_of_ble_eq_true rfl) dX4_microphone_2 (fun H locs hP hD hS => ?_)
  have hP : va_P G vwCl [(om, .inr (4, [.int 0, .int sa, .ref (am 0), .ref (am 1), .double mi, .ref (am 2), .ref (am 3), .ref (am 4), .int (nI nf), .ref (am 5), .ref (am 6), .ref (am 7), .ref (am 8), .ref (am 9), .ref (am 10), .ref (am 11), .ref (am 12), .ref (am 13), .ref (am 14), .ref (am 15), .ref (am 16), .ref (am 17), .ref (am 18), .ref (am 19)]))] H := hP
  have hD : va_D A [(om, .inr (4, [.int 0, .int sa, .ref (am 0), .ref (am 1), .double mi, .ref (am 2), .ref (am 3), .ref (am 4), .int (nI nf), .ref (am 5), .ref (am 6), .ref (am 7), .ref (am 8), .ref (am 9), .ref (am 10), .ref (am 11), .ref (am 12), .ref (am 13), .ref (am 14), .ref (am 15), .ref (am 16), .ref (am 17), .ref (am 18), .ref (am 19)]))] := hD
  refine lv_aload_n hx hb dX4_microphone_5 rfl (lv_at hl 0 rfl) ?_
  refine va_get (D := G) (ci := 4) (v := .double mi) (C := RX4) (T := TX4) (N := 24) hx hb hts in_X4_microphone_X4 hown hK hP 0 rfl rfl 4 (by decide) (hts (.fieldLink RX4 113 "EchoBenchModel" "microphone" "D") (by decide +kernel)) (fun _ h9 => h9) rfl dX4_microphone_6 ?_
  have hP9 := hP
  have hD9 := hD
  exact W.dret (v := mi) hx hb hr (fun t ht hW => ⟨⟨mi, (), rfl, rfl, by rw [ht]; exact hP9, hD9⟩, hS.F ht⟩) hS.2.2 dX4_microphone_9

theorem in_X4_thrown_X4 : ∀ w ∈ wsX40, w ∈ wsX4_thrown := by decide +kernel
set_option maxHeartbeats 4000000 in
set_option maxRecDepth 100000 in
/-- thrown -/
theorem m_X4_thrown (l : Launch) (G : va_G) (q : Nat → ClassId) (sz : Nat) (om : Nat) (am : Nat → Nat) (th sa : Int32) (mi : UInt64) (nf : Nat)  : Met l yX4_thrown wsX4_thrown ({ frames := 0, cells := 0, slots := 0, locals := 0 } : Jvm.Room) (PreW G q [.ref om] [(om, .inr (4, [.int th, .int sa, .ref (am 0), .ref (am 1), .double mi, .ref (am 2), .ref (am 3), .ref (am 4), .int (nI nf), .ref (am 5), .ref (am 6), .ref (am 7), .ref (am 8), .ref (am 9), .ref (am 10), .ref (am 11), .ref (am 12), .ref (am 13), .ref (am 14), .ref (am 15), .ref (am 16), .ref (am 17), .ref (am 18), .ref (am 19)]))] sz) (va_Qi (fun (r : Int32) (_ : Unit) => r = th) (fun (_ : Unit) t => EndA G (va_A [(om, .inr (4, [.int th, .int sa, .ref (am 0), .ref (am 1), .double mi, .ref (am 2), .ref (am 3), .ref (am 4), .int (nI nf), .ref (am 5), .ref (am 6), .ref (am 7), .ref (am 8), .ref (am 9), .ref (am 10), .ref (am 11), .ref (am 12), .ref (am 13), .ref (am 14), .ref (am 15), .ref (am 16), .ref (am 17), .ref (am 18), .ref (am 19)]))] sz) [(om, .inr (4, [.int th, .int sa, .ref (am 0), .ref (am 1), .double mi, .ref (am 2), .ref (am 3), .ref (am 4), .int (nI nf), .ref (am 5), .ref (am 6), .ref (am 7), .ref (am 8), .ref (am 9), .ref (am 10), .ref (am 11), .ref (am 12), .ref (am 13), .ref (am 14), .ref (am 15), .ref (am 16), .ref (am 17), .ref (am 18), .ref (am 19)]))] t) (va_A [(om, .inr (4, [.int th, .int sa, .ref (am 0), .ref (am 1), .double mi, .ref (am 2), .ref (am 3), .ref (am 4), .int (nI nf), .ref (am 5), .ref (am 6), .ref (am 7), .ref (am 8), .ref (am 9), .ref (am 10), .ref (am 11), .ref (am 12), .ref (am 13), .ref (am 14), .ref (am 15), .ref (am 16), .ref (am 17), .ref (am 18), .ref (am 19)]))] sz)) 0 0 (va_A [(om, .inr (4, [.int th, .int sa, .ref (am 0), .ref (am 1), .double mi, .ref (am 2), .ref (am 3), .ref (am 4), .int (nI nf), .ref (am 5), .ref (am 6), .ref (am 7), .ref (am 8), .ref (am 9), .ref (am 10), .ref (am 11), .ref (am 12), .ref (am 13), .ref (am 14), .ref (am 15), .ref (am 16), .ref (am 17), .ref (am 18), .ref (am 19)]))] sz) := by
  refine Met.ofW (cc := cX4_thrown) (maxL := 1) (ret := (some .int)) (by decide +kernel) rfl ?_
  intro p e s m args below meth c s₁ B hml hv
  obtain ⟨rfl, hsz, hP, hK, hD0, hNF⟩ := hv
  have hx := B.exec
  have hb := B.bytes
  have hr := B.returns
  have hts := atoms_spec (ws := wsX4_thrown) B.pre
  have hown : s.vm.findClass RX4 = some m.cls := findClass_of_methodNamed B.named
  have hlocks := B.notSynchronized
  subst hsz
  have hD := hD0.self (sz := s.heap.size)
  generalize hAe : va_A [(om, .inr (4, [.int th, .int sa, .ref (am 0), .ref (am 1), .double mi, .ref (am 2), .ref (am 3), .ref (am 4), .int (nI nf), .ref (am 5), .ref (am 6), .ref (am 7), .ref (am 8), .ref (am 9), .ref (am 10), .ref (am 11), .ref (am 12), .ref (am 13), .ref (am 14), .ref (am 15), .ref (am 16), .ref (am 17), .ref (am 18), .ref (am 19)]))] s.heap.size = A at hD ⊢
  have hA : ∀ q : Nat, s.heap.size ≤ q → A q := fun q h => by rw [← hAe]; exact Or.inr h
  have hS : va_S A s.heap s.heap [] := va_S.rf
  have hP : va_P G vwCl [(om, .inr (4, [.int th, .int sa, .ref (am 0), .ref (am 1), .double mi, .ref (am 2), .ref (am 3), .ref (am 4), .int (nI nf), .ref (am 5), .ref (am 6), .ref (am 7), .ref (am 8), .ref (am 9), .ref (am 10), .ref (am 11), .ref (am 12), .ref (am 13), .ref (am 14), .ref (am 15), .ref (am 16), .ref (am 17), .ref (am 18), .ref (am 19)]))] s.heap := hP
  have hl := lv_entry ([.ref om]) (n := 1) (Nat.le_of_ble_eq_true rfl)
  rw [lg_entry_eq]
  generalize (lg_sl ([.ref om]) ++ List.replicate (1 - (lg_sl ([.ref om])).length) Slot.unset).toArray = ls at hl ⊢
  have hl : lv_has ls 1 [(0, .ref om)] := hl
  refine lv_aload_n hx hb dX4_thrown_0 rfl (lv_at hl 0 rfl) ?_
  refine va_get (D := G) (ci := 4) (v := .int th) (C := RX4) (T := TX4) (N := 24) hx hb hts in_X4_thrown_X4 hown hK hP 0 rfl rfl 0 (by decide) (hts (.fieldLink RX4 71 "EchoBenchModel" "thrown" "I") (by decide +kernel)) (fun _ h9 => h9) rfl dX4_thrown_1 ?_
  have hP9 := hP
  have hD9 := hD
  exact W.iret (v := th) hx hb hr (fun t ht hW => ⟨⟨th, (), rfl, rfl, by rw [ht]; exact hP9, hD9⟩, hS.F ht⟩) hS.2.2 dX4_thrown_4

set_option maxHeartbeats 4000000 in
set_option maxRecDepth 100000 in
/-- count: where it throws -/
theorem m_X4_count_no (l : Launch) (G : va_G) (q : Nat → ClassId) (sz : Nat) (om : Nat) (am : Nat → Nat) (th sa : Int32) (mi : UInt64) (nf : Nat) (f xa : Int32) (hnf : nf ≤ 6) (hc : ¬ ofC f xa (nI nf) = 0) : Met l yX4_count wsX4_count ({ frames := 2, cells := 0, slots := 0, locals := 43 } : Jvm.Room) (PreW G q [.ref om, .int f, .int xa] [(om, .inr (4, [.int th, .int sa, .ref (am 0), .ref (am 1), .double mi, .ref (am 2), .ref (am 3), .ref (am 4), .int (nI nf), .ref (am 5), .ref (am 6), .ref (am 7), .ref (am 8), .ref (am 9), .ref (am 10), .ref (am 11), .ref (am 12), .ref (am 13), .ref (am 14), .ref (am 15), .ref (am 16), .ref (am 17), .ref (am 18), .ref (am 19)]))] sz) (va_Qi (fun (_ : Int32) (u : Int32) => u = ofC f xa (nI nf)) (fun (u : Int32) t => EndA G (va_A [(om, .inr (4, [.int th, .int sa, .ref (am 0), .ref (am 1), .double mi, .ref (am 2), .ref (am 3), .ref (am 4), .int (nI nf), .ref (am 5), .ref (am 6), .ref (am 7), .ref (am 8), .ref (am 9), .ref (am 10), .ref (am 11), .ref (am 12), .ref (am 13), .ref (am 14), .ref (am 15), .ref (am 16), .ref (am 17), .ref (am 18), .ref (am 19)]))] sz) [(om, .inr (4, [.int u, .int sa, .ref (am 0), .ref (am 1), .double mi, .ref (am 2), .ref (am 3), .ref (am 4), .int (nI nf), .ref (am 5), .ref (am 6), .ref (am 7), .ref (am 8), .ref (am 9), .ref (am 10), .ref (am 11), .ref (am 12), .ref (am 13), .ref (am 14), .ref (am 15), .ref (am 16), .ref (am 17), .ref (am 18), .ref (am 19)]))] t) (va_A [(om, .inr (4, [.int th, .int sa, .ref (am 0), .ref (am 1), .double mi, .ref (am 2), .ref (am 3), .ref (am 4), .int (nI nf), .ref (am 5), .ref (am 6), .ref (am 7), .ref (am 8), .ref (am 9), .ref (am 10), .ref (am 11), .ref (am 12), .ref (am 13), .ref (am 14), .ref (am 15), .ref (am 16), .ref (am 17), .ref (am 18), .ref (am 19)]))] sz)) 0 0 (va_A [(om, .inr (4, [.int th, .int sa, .ref (am 0), .ref (am 1), .double mi, .ref (am 2), .ref (am 3), .ref (am 4), .int (nI nf), .ref (am 5), .ref (am 6), .ref (am 7), .ref (am 8), .ref (am 9), .ref (am 10), .ref (am 11), .ref (am 12), .ref (am 13), .ref (am 14), .ref (am 15), .ref (am 16), .ref (am 17), .ref (am 18), .ref (am 19)]))] sz) := by
  refine Met.ofW (cc := cX4_count) (maxL := 4) (ret := (some .int)) (by decide +kernel) rfl ?_
  intro p e s m args below meth c s₁ B hml hv
  obtain ⟨rfl, hsz, hP, hK, hD0, hNF⟩ := hv
  have hx := B.exec
  have hb := B.bytes
  have hr := B.returns
  have hts := atoms_spec (ws := wsX4_count) B.pre
  have hown : s.vm.findClass RX4 = some m.cls := findClass_of_methodNamed B.named
  have hlocks := B.notSynchronized
  subst hsz
  have hD := hD0.self (sz := s.heap.size)
  generalize hAe : va_A [(om, .inr (4, [.int th, .int sa, .ref (am 0), .ref (am 1), .double mi, .ref (am 2), .ref (am 3), .ref (am 4), .int (nI nf), .ref (am 5), .ref (am 6), .ref (am 7), .ref (am 8), .ref (am 9), .ref (am 10), .ref (am 11), .ref (am 12), .ref (am 13), .ref (am 14), .ref (am 15), .ref (am 16), .ref (am 17), .ref (am 18), .ref (am 19)]))] s.heap.size = A at hD ⊢
  have hA : ∀ q : Nat, s.heap.size ≤ q → A q := fun q h => by rw [← hAe]; exact Or.inr h
  have hS : va_S A s.heap s.heap [] := va_S.rf
  have hP : va_P G vwCl [(om, .inr (4, [.int th, .int sa, .ref (am 0), .ref (am 1), .double mi, .ref (am 2), .ref (am 3), .ref (am 4), .int (nI nf), .ref (am 5), .ref (am 6), .ref (am 7), .ref (am 8), .ref (am 9), .ref (am 10), .ref (am 11), .ref (am 12), .ref (am 13), .ref (am 14), .ref (am 15), .ref (am 16), .ref (am 17), .ref (am 18), .ref (am 19)]))] s.heap := hP
  have hl := lv_entry ([.ref om, .int f, .int xa]) (n := 4) (Nat.le_of_ble_eq_true rfl)
  rw [lg_entry_eq]
  generalize (lg_sl ([.ref om, .int f, .int xa]) ++ List.replicate (4 - (lg_sl ([.ref om, .int f, .int xa])).length) Slot.unset).toArray = ls at hl ⊢
  have hl : lv_has ls 4 [(0, .ref om), (1, .int f), (2, .int xa)] := hl
  refine lv_aload_n hx hb dX4_count_0 rfl (lv_at hl 0 rfl) ?_
  refine lv_iload_n hx hb dX4_count_1 rfl (lv_at hl 1 rfl) ?_
  have hPc := hP.sub (ws' := [(om, .inr (4, [.int th, .int sa, .ref (am 0), .ref (am 1), .double mi, .ref (am 2), .ref (am 3), .ref (am 4), .int (nI nf), .ref (am 5), .ref (am 6), .ref (am 7), .ref (am 8), .ref (am 9), .ref (am 10), .ref (am 11), .ref (am 12), .ref (am 13), .ref (am 14), .ref (am 15), .ref (am 16), .ref (am 17), .ref (am 18), .ref (am 19)]))]) [0] rfl
  have hDc := hD.sub (ws' := [(om, .inr (4, [.int th, .int sa, .ref (am 0), .ref (am 1), .double mi, .ref (am 2), .ref (am 3), .ref (am 4), .int (nI nf), .ref (am 5), .ref (am 6), .ref (am 7), .ref (am 8), .ref (am 9), .ref (am 10), .ref (am 11), .ref (am 12), .ref (am 13), .ref (am 14), .ref (am 15), .ref (am 16), .ref (am 17), .ref (am 18), .ref (am 19)]))]) [0] (by decide) rfl
  have hFc := va_free (wc := [(om, .inr (4, [.int th, .int sa, .ref (am 0), .ref (am 1), .double mi, .ref (am 2), .ref (am 3), .ref (am 4), .int (nI nf), .ref (am 5), .ref (am 6), .ref (am 7), .ref (am 8), .ref (am 9), .ref (am 10), .ref (am 11), .ref (am 12), .ref (am 13), .ref (am 14), .ref (am 15), .ref (am 16), .ref (am 17), .ref (am 18), .ref (am 19)]))]) hD hS hA [0] rfl
  refine va_calli (va_runV (As := [.int f]) (rest := []) ⟨hx, hb, hml, hown, hts⟩ (m_X4_isFilter l G q s.heap.size om am th sa (nI nf) mi f) (cwV 1 hts gX4_count_X4_isFilter rfl rfl rfl (by decide +kernel) ⟨Nat.le_of_ble_eq_true rfl, Nat.le_of_ble_eq_true rfl⟩) ⟨preW_blind, (va_recv hK hPc (ci := 4) (q0 := 0) rfl rfl), preW_start hPc hK hDc hNF⟩ rfl rfl hl.1 rfl (lv_room (Nat.le_of_ble_eq_true rfl)) dX4_count_2 ⟨(Nat.zero_le _), (Nat.zero_le _)⟩) hS (fun q _ h => hFc q h) hFc (fun rf1 u9 t9 H1 locs ht9 hv9 hw hB9 hz9 hk9 hS => ?_)
  obtain ⟨⟩ := u9
  obtain ⟨hP1, hD1⟩ := hB9
  rw [ht9] at hP1
  obtain ⟨hP, hD⟩ := va_join (wr := []) (w1 := [(om, .inr (4, [.int th, .int sa, .ref (am 0), .ref (am 1), .double mi, .ref (am 2), .ref (am 3), .ref (am 4), .int (nI nf), .ref (am 5), .ref (am 6), .ref (am 7), .ref (am 8), .ref (am 9), .ref (am 10), .ref (am 11), .ref (am 12), .ref (am 13), .ref (am 14), .ref (am 15), .ref (am 16), .ref (am 17), .ref (am 18), .ref (am 19)]))]) hP hD [0] [] rfl rfl (by decide) (by decide) hk9 hFc hP1 hD1
  generalize H1 = H at hP hS ⊢
  have hP : va_P G vwCl [(om, .inr (4, [.int th, .int sa, .ref (am 0), .ref (am 1), .double mi, .ref (am 2), .ref (am 3), .ref (am 4), .int (nI nf), .ref (am 5), .ref (am 6), .ref (am 7), .ref (am 8), .ref (am 9), .ref (am 10), .ref (am 11), .ref (am 12), .ref (am 13), .ref (am 14), .ref (am 15), .ref (am 16), .ref (am 17), .ref (am 18), .ref (am 19)]))] H := hP
  have hD : va_D A [(om, .inr (4, [.int th, .int sa, .ref (am 0), .ref (am 1), .double mi, .ref (am 2), .ref (am 3), .ref (am 4), .int (nI nf), .ref (am 5), .ref (am 6), .ref (am 7), .ref (am 8), .ref (am 9), .ref (am 10), .ref (am 11), .ref (am 12), .ref (am 13), .ref (am 14), .ref (am 15), .ref (am 16), .ref (am 17), .ref (am 18), .ref (am 19)]))] := hD
  by_cases ci3 : isF f (nI nf)
  rotate_left
  · skip
    obtain rfl : rf1 = 0 := hw.trans (if_neg ci3)
    refine lv_istore_n (lv' := [(3, .int 0), (0, .ref om), (1, .int f), (2, .int xa)]) hx hb dX4_count_5 rfl hl (by decide) rfl (fun ls hl => ?_)
    refine lv_aload_n hx hb dX4_count_6 rfl (lv_at hl 1 rfl) ?_
    refine lv_iload_n hx hb dX4_count_7 rfl (lv_at hl 0 rfl) ?_
    refine lv_if_ne (tgt := 15) hx hb dX4_count_8 (by decide) (fun h => absurd (by decide) h) (fun _ => ?_)
    refine lv_iconst (v := 1) hx hb dX4_count_11 (by decide) ?_
    refine lv_goto (tgt := 29) hx hb dX4_count_12 (by decide) ?_
    have hPc := hP.sub (ws' := [(om, .inr (4, [.int th, .int sa, .ref (am 0), .ref (am 1), .double mi, .ref (am 2), .ref (am 3), .ref (am 4), .int (nI nf), .ref (am 5), .ref (am 6), .ref (am 7), .ref (am 8), .ref (am 9), .ref (am 10), .ref (am 11), .ref (am 12), .ref (am 13), .ref (am 14), .ref (am 15), .ref (am 16), .ref (am 17), .ref (am 18), .ref (am 19)]))]) [0] rfl
    have hDc := hD.sub (ws' := [(om, .inr (4, [.int th, .int sa, .ref (am 0), .ref (am 1), .double mi, .ref (am 2), .ref (am 3), .ref (am 4), .int (nI nf), .ref (am 5), .ref (am 6), .ref (am 7), .ref (am 8), .ref (am 9), .ref (am 10), .ref (am 11), .ref (am 12), .ref (am 13), .ref (am 14), .ref (am 15), .ref (am 16), .ref (am 17), .ref (am 18), .ref (am 19)]))]) [0] (by decide) rfl
    have hFc := va_free (wc := [(om, .inr (4, [.int th, .int sa, .ref (am 0), .ref (am 1), .double mi, .ref (am 2), .ref (am 3), .ref (am 4), .int (nI nf), .ref (am 5), .ref (am 6), .ref (am 7), .ref (am 8), .ref (am 9), .ref (am 10), .ref (am 11), .ref (am 12), .ref (am 13), .ref (am 14), .ref (am 15), .ref (am 16), .ref (am 17), .ref (am 18), .ref (am 19)]))]) hD hS hA [0] rfl
    refine va_calli (va_runV (As := [.int 1]) (rest := []) ⟨hx, hb, hml, hown, hts⟩ (m_X4_goesWell l G q H.size om am th sa (nI nf) mi 1) (cwV 1 hts gX4_count_X4_goesWell rfl rfl rfl (by decide +kernel) ⟨Nat.le_of_ble_eq_true rfl, Nat.le_of_ble_eq_true rfl⟩) ⟨preW_blind, (va_recv hK hPc (ci := 4) (q0 := 0) rfl rfl), preW_start hPc hK hDc hNF⟩ rfl rfl hl.1 rfl (lv_room (Nat.le_of_ble_eq_true rfl)) dX4_count_29 ⟨(Nat.zero_le _), (Nat.zero_le _)⟩) hS (fun q _ h => hFc q h) hFc (fun gr5 u9 t9 H1 locs ht9 hv9 hw hB9 hz9 hk9 hS => ?_)
    obtain ⟨⟩ := u9
    obtain ⟨hP1, hD1⟩ := hB9
    rw [ht9] at hP1
    obtain ⟨hP, hD⟩ := va_join (wr := []) (w1 := [(om, .inr (4, [.int 1, .int sa, .ref (am 0), .ref (am 1), .double mi, .ref (am 2), .ref (am 3), .ref (am 4), .int (nI nf), .ref (am 5), .ref (am 6), .ref (am 7), .ref (am 8), .ref (am 9), .ref (am 10), .ref (am 11), .ref (am 12), .ref (am 13), .ref (am 14), .ref (am 15), .ref (am 16), .ref (am 17), .ref (am 18), .ref (am 19)]))]) hP hD [0] [] rfl rfl (by decide) (by decide) hk9 hFc hP1 hD1
    generalize H1 = H at hP hS ⊢
    have hP : va_P G vwCl [(om, .inr (4, [.int 1, .int sa, .ref (am 0), .ref (am 1), .double mi, .ref (am 2), .ref (am 3), .ref (am 4), .int (nI nf), .ref (am 5), .ref (am 6), .ref (am 7), .ref (am 8), .ref (am 9), .ref (am 10), .ref (am 11), .ref (am 12), .ref (am 13), .ref (am 14), .ref (am 15), .ref (am 16), .ref (am 17), .ref (am 18), .ref (am 19)]))] H := hP
    have hD : va_D A [(om, .inr (4, [.int 1, .int sa, .ref (am 0), .ref (am 1), .double mi, .ref (am 2), .ref (am 3), .ref (am 4), .int (nI nf), .ref (am 5), .ref (am 6), .ref (am 7), .ref (am 8), .ref (am 9), .ref (am 10), .ref (am 11), .ref (am 12), .ref (am 13), .ref (am 14), .ref (am 15), .ref (am 16), .ref (am 17), .ref (am 18), .ref (am 19)]))] := hD
    obtain rfl : gr5 = 0 := hw.trans (by decide)
    refine lv_if_ne (tgt := 37) hx hb dX4_count_32 (by decide) (fun h => absurd (by decide) h) (fun _ => ?_)
    refine lv_iconst (v := 0) hx hb dX4_count_35 (by decide) ?_
    have hP9 := hP
    have hD9 := hD
    exact W.iret (v := 0) hx hb hr (fun t ht hW => ⟨⟨0, 1, rfl, by dsimp only; unfold ofC; rw [if_neg ci3], by rw [ht]; exact hP9, hD9⟩, hS.F ht⟩) hS.2.2 dX4_count_36
  obtain rfl : rf1 = 1 := hw.trans (if_pos ci3)
  refine lv_istore_n (lv' := [(3, .int 1), (0, .ref om), (1, .int f), (2, .int xa)]) hx hb dX4_count_5 rfl hl (by decide) rfl (fun ls hl => ?_)
  refine lv_aload_n hx hb dX4_count_6 rfl (lv_at hl 1 rfl) ?_
  refine lv_iload_n hx hb dX4_count_7 rfl (lv_at hl 0 rfl) ?_
  refine lv_if_ne (tgt := 15) hx hb dX4_count_8 (by decide) (fun _ => ?_) (fun h => absurd h (by decide))
  refine lv_iload_n hx hb dX4_count_15 rfl (lv_at hl 3 rfl) ?_
  refine lv_iconst (v := 0) hx hb dX4_count_16 (by decide) ?_
  refine lv_iconst (v := 3) hx hb dX4_count_17 (by decide) ?_
  have hPc := hP.sub (ws' := []) [] rfl
  have hDc := hD.sub (ws' := []) [] (by decide) rfl
  have hFc := va_free (wc := []) hD hS hA [] rfl
  refine va_calli (va_runS (As := [.int xa, .int 0, .int 3]) (rest := [.ref om]) ⟨hx, hb, hml, hown, hts⟩ (m_X4_in l G q H.size xa 0 3) (va_cwS 3 hts gX4_count_X4_in rfl rfl rfl (by decide +kernel) ⟨Nat.le_of_ble_eq_true rfl, Nat.le_of_ble_eq_true rfl⟩) ⟨preW_blind, preW_start hPc hK hDc hNF⟩ rfl rfl hl.1 rfl (lv_room (Nat.le_of_ble_eq_true rfl)) dX4_count_18 ⟨(Nat.zero_le _), (Nat.zero_le _)⟩) hS (fun q _ h => hFc q h) hFc (fun ri9 u9 t9 H1 locs ht9 hv9 hw hB9 hz9 hk9 hS => ?_)
  obtain ⟨⟩ := u9
  obtain ⟨hP1, hD1⟩ := hB9
  rw [ht9] at hP1
  obtain ⟨hP, hD⟩ := va_join (wr := [(om, .inr (4, [.int th, .int sa, .ref (am 0), .ref (am 1), .double mi, .ref (am 2), .ref (am 3), .ref (am 4), .int (nI nf), .ref (am 5), .ref (am 6), .ref (am 7), .ref (am 8), .ref (am 9), .ref (am 10), .ref (am 11), .ref (am 12), .ref (am 13), .ref (am 14), .ref (am 15), .ref (am 16), .ref (am 17), .ref (am 18), .ref (am 19)]))]) (w1 := []) hP hD [] [0] rfl rfl (by decide) (by decide) hk9 hFc hP1 hD1
  generalize H1 = H at hP hS ⊢
  have hP : va_P G vwCl [(om, .inr (4, [.int th, .int sa, .ref (am 0), .ref (am 1), .double mi, .ref (am 2), .ref (am 3), .ref (am 4), .int (nI nf), .ref (am 5), .ref (am 6), .ref (am 7), .ref (am 8), .ref (am 9), .ref (am 10), .ref (am 11), .ref (am 12), .ref (am 13), .ref (am 14), .ref (am 15), .ref (am 16), .ref (am 17), .ref (am 18), .ref (am 19)]))] H := hP
  have hD : va_D A [(om, .inr (4, [.int th, .int sa, .ref (am 0), .ref (am 1), .double mi, .ref (am 2), .ref (am 3), .ref (am 4), .int (nI nf), .ref (am 5), .ref (am 6), .ref (am 7), .ref (am 8), .ref (am 9), .ref (am 10), .ref (am 11), .ref (am 12), .ref (am 13), .ref (am 14), .ref (am 15), .ref (am 16), .ref (am 17), .ref (am 18), .ref (am 19)]))] := hD
  by_cases ci11 : 0 ≤ xa ∧ xa ≤ 3
  · skip
    exact absurd (by unfold ofC; rw [if_pos ci3, if_pos ci11]) hc
  obtain rfl : ri9 = 0 := hw.trans (if_neg ci11)
  refine lv_if_eq (tgt := 28) hx hb dX4_count_21 (by decide) (fun _ => ?_) (fun h => absurd (by decide) h)
  refine lv_iconst (v := 2) hx hb dX4_count_28 (by decide) ?_
  have hPc := hP.sub (ws' := [(om, .inr (4, [.int th, .int sa, .ref (am 0), .ref (am 1), .double mi, .ref (am 2), .ref (am 3), .ref (am 4), .int (nI nf), .ref (am 5), .ref (am 6), .ref (am 7), .ref (am 8), .ref (am 9), .ref (am 10), .ref (am 11), .ref (am 12), .ref (am 13), .ref (am 14), .ref (am 15), .ref (am 16), .ref (am 17), .ref (am 18), .ref (am 19)]))]) [0] rfl
  have hDc := hD.sub (ws' := [(om, .inr (4, [.int th, .int sa, .ref (am 0), .ref (am 1), .double mi, .ref (am 2), .ref (am 3), .ref (am 4), .int (nI nf), .ref (am 5), .ref (am 6), .ref (am 7), .ref (am 8), .ref (am 9), .ref (am 10), .ref (am 11), .ref (am 12), .ref (am 13), .ref (am 14), .ref (am 15), .ref (am 16), .ref (am 17), .ref (am 18), .ref (am 19)]))]) [0] (by decide) rfl
  have hFc := va_free (wc := [(om, .inr (4, [.int th, .int sa, .ref (am 0), .ref (am 1), .double mi, .ref (am 2), .ref (am 3), .ref (am 4), .int (nI nf), .ref (am 5), .ref (am 6), .ref (am 7), .ref (am 8), .ref (am 9), .ref (am 10), .ref (am 11), .ref (am 12), .ref (am 13), .ref (am 14), .ref (am 15), .ref (am 16), .ref (am 17), .ref (am 18), .ref (am 19)]))]) hD hS hA [0] rfl
  refine va_calli (va_runV (As := [.int 2]) (rest := []) ⟨hx, hb, hml, hown, hts⟩ (m_X4_goesWell l G q H.size om am th sa (nI nf) mi 2) (cwV 1 hts gX4_count_X4_goesWell rfl rfl rfl (by decide +kernel) ⟨Nat.le_of_ble_eq_true rfl, Nat.le_of_ble_eq_true rfl⟩) ⟨preW_blind, (va_recv hK hPc (ci := 4) (q0 := 0) rfl rfl), preW_start hPc hK hDc hNF⟩ rfl rfl hl.1 rfl (lv_room (Nat.le_of_ble_eq_true rfl)) dX4_count_29 ⟨(Nat.zero_le _), (Nat.zero_le _)⟩) hS (fun q _ h => hFc q h) hFc (fun gr13 u9 t9 H1 locs ht9 hv9 hw hB9 hz9 hk9 hS => ?_)
  obtain ⟨⟩ := u9
  obtain ⟨hP1, hD1⟩ := hB9
  rw [ht9] at hP1
  obtain ⟨hP, hD⟩ := va_join (wr := []) (w1 := [(om, .inr (4, [.int 2, .int sa, .ref (am 0), .ref (am 1), .double mi, .ref (am 2), .ref (am 3), .ref (am 4), .int (nI nf), .ref (am 5), .ref (am 6), .ref (am 7), .ref (am 8), .ref (am 9), .ref (am 10), .ref (am 11), .ref (am 12), .ref (am 13), .ref (am 14), .ref (am 15), .ref (am 16), .ref (am 17), .ref (am 18), .ref (am 19)]))]) hP hD [0] [] rfl rfl (by decide) (by decide) hk9 hFc hP1 hD1
  generalize H1 = H at hP hS ⊢
  have hP : va_P G vwCl [(om, .inr (4, [.int 2, .int sa, .ref (am 0), .ref (am 1), .double mi, .ref (am 2), .ref (am 3), .ref (am 4), .int (nI nf), .ref (am 5), .ref (am 6), .ref (am 7), .ref (am 8), .ref (am 9), .ref (am 10), .ref (am 11), .ref (am 12), .ref (am 13), .ref (am 14), .ref (am 15), .ref (am 16), .ref (am 17), .ref (am 18), .ref (am 19)]))] H := hP
  have hD : va_D A [(om, .inr (4, [.int 2, .int sa, .ref (am 0), .ref (am 1), .double mi, .ref (am 2), .ref (am 3), .ref (am 4), .int (nI nf), .ref (am 5), .ref (am 6), .ref (am 7), .ref (am 8), .ref (am 9), .ref (am 10), .ref (am 11), .ref (am 12), .ref (am 13), .ref (am 14), .ref (am 15), .ref (am 16), .ref (am 17), .ref (am 18), .ref (am 19)]))] := hD
  obtain rfl : gr13 = 0 := hw.trans (by decide)
  refine lv_if_ne (tgt := 37) hx hb dX4_count_32 (by decide) (fun h => absurd (by decide) h) (fun _ => ?_)
  refine lv_iconst (v := 0) hx hb dX4_count_35 (by decide) ?_
  have hP9 := hP
  have hD9 := hD
  exact W.iret (v := 0) hx hb hr (fun t ht hW => ⟨⟨0, 2, rfl, by dsimp only; unfold ofC; rw [if_pos ci3, if_neg ci11], by rw [ht]; exact hP9, hD9⟩, hS.F ht⟩) hS.2.2 dX4_count_36

set_option maxHeartbeats 4000000 in
set_option maxRecDepth 100000 in
/-- of: where it throws -/
theorem m_X4_of_no (l : Launch) (G : va_G) (q : Nat → ClassId) (sz : Nat) (om : Nat) (am : Nat → Nat) (th sa : Int32) (mi : UInt64) (nf : Nat) (f xa : Int32) (hnf : nf ≤ 6) (hc : ¬ ofC f xa (nI nf) = 0) : Met l yX4_of wsX4_of ({ frames := 2, cells := 0, slots := 0, locals := 43 } : Jvm.Room) (PreW G q [.ref om, .int f, .int xa] [(om, .inr (4, [.int th, .int sa, .ref (am 0), .ref (am 1), .double mi, .ref (am 2), .ref (am 3), .ref (am 4), .int (nI nf), .ref (am 5), .ref (am 6), .ref (am 7), .ref (am 8), .ref (am 9), .ref (am 10), .ref (am 11), .ref (am 12), .ref (am 13), .ref (am 14), .ref (am 15), .ref (am 16), .ref (am 17), .ref (am 18), .ref (am 19)]))] sz) (va_Qd (fun (_ : UInt64) (u : Int32) => u = ofC f xa (nI nf)) (fun (u : Int32) t => EndA G (va_A [(om, .inr (4, [.int th, .int sa, .ref (am 0), .ref (am 1), .double mi, .ref (am 2), .ref (am 3), .ref (am 4), .int (nI nf), .ref (am 5), .ref (am 6), .ref (am 7), .ref (am 8), .ref (am 9), .ref (am 10), .ref (am 11), .ref (am 12), .ref (am 13), .ref (am 14), .ref (am 15), .ref (am 16), .ref (am 17), .ref (am 18), .ref (am 19)]))] sz) [(om, .inr (4, [.int u, .int sa, .ref (am 0), .ref (am 1), .double mi, .ref (am 2), .ref (am 3), .ref (am 4), .int (nI nf), .ref (am 5), .ref (am 6), .ref (am 7), .ref (am 8), .ref (am 9), .ref (am 10), .ref (am 11), .ref (am 12), .ref (am 13), .ref (am 14), .ref (am 15), .ref (am 16), .ref (am 17), .ref (am 18), .ref (am 19)]))] t) (va_A [(om, .inr (4, [.int th, .int sa, .ref (am 0), .ref (am 1), .double mi, .ref (am 2), .ref (am 3), .ref (am 4), .int (nI nf), .ref (am 5), .ref (am 6), .ref (am 7), .ref (am 8), .ref (am 9), .ref (am 10), .ref (am 11), .ref (am 12), .ref (am 13), .ref (am 14), .ref (am 15), .ref (am 16), .ref (am 17), .ref (am 18), .ref (am 19)]))] sz)) 0 0 (va_A [(om, .inr (4, [.int th, .int sa, .ref (am 0), .ref (am 1), .double mi, .ref (am 2), .ref (am 3), .ref (am 4), .int (nI nf), .ref (am 5), .ref (am 6), .ref (am 7), .ref (am 8), .ref (am 9), .ref (am 10), .ref (am 11), .ref (am 12), .ref (am 13), .ref (am 14), .ref (am 15), .ref (am 16), .ref (am 17), .ref (am 18), .ref (am 19)]))] sz) := by
  refine Met.ofW (cc := cX4_of) (maxL := 4) (ret := (some .double)) (by decide +kernel) rfl ?_
  intro p e s m args below meth c s₁ B hml hv
  obtain ⟨rfl, hsz, hP, hK, hD0, hNF⟩ := hv
  have hx := B.exec
  have hb := B.bytes
  have hr := B.returns
  have hts := atoms_spec (ws := wsX4_of) B.pre
  have hown : s.vm.findClass RX4 = some m.cls := findClass_of_methodNamed B.named
  have hlocks := B.notSynchronized
  subst hsz
  have hD := hD0.self (sz := s.heap.size)
  generalize hAe : va_A [(om, .inr (4, [.int th, .int sa, .ref (am 0), .ref (am 1), .double mi, .ref (am 2), .ref (am 3), .ref (am 4), .int (nI nf), .ref (am 5), .ref (am 6), .ref (am 7), .ref (am 8), .ref (am 9), .ref (am 10), .ref (am 11), .ref (am 12), .ref (am 13), .ref (am 14), .ref (am 15), .ref (am 16), .ref (am 17), .ref (am 18), .ref (am 19)]))] s.heap.size = A at hD ⊢
  have hA : ∀ q : Nat, s.heap.size ≤ q → A q := fun q h => by rw [← hAe]; exact Or.inr h
  have hS : va_S A s.heap s.heap [] := va_S.rf
  have hP : va_P G vwCl [(om, .inr (4, [.int th, .int sa, .ref (am 0), .ref (am 1), .double mi, .ref (am 2), .ref (am 3), .ref (am 4), .int (nI nf), .ref (am 5), .ref (am 6), .ref (am 7), .ref (am 8), .ref (am 9), .ref (am 10), .ref (am 11), .ref (am 12), .ref (am 13), .ref (am 14), .ref (am 15), .ref (am 16), .ref (am 17), .ref (am 18), .ref (am 19)]))] s.heap := hP
  have hl := lv_entry ([.ref om, .int f, .int xa]) (n := 4) (Nat.le_of_ble_eq_true rfl)
  rw [lg_entry_eq]
  generalize (lg_sl ([.ref om, .int f, .int xa]) ++ List.replicate (4 - (lg_sl ([.ref om, .int f, .int xa])).length) Slot.unset).toArray = ls at hl ⊢
  have hl : lv_has ls 4 [(0, .ref om), (1, .int f), (2, .int xa)] := hl
  refine lv_aload_n hx hb dX4_of_0 rfl (lv_at hl 0 rfl) ?_
  refine lv_iload_n hx hb dX4_of_1 rfl (lv_at hl 1 rfl) ?_
  have hPc := hP.sub (ws' := [(om, .inr (4, [.int th, .int sa, .ref (am 0), .ref (am 1), .double mi, .ref (am 2), .ref (am 3), .ref (am 4), .int (nI nf), .ref (am 5), .ref (am 6), .ref (am 7), .ref (am 8), .ref (am 9), .ref (am 10), .ref (am 11), .ref (am 12), .ref (am 13), .ref (am 14), .ref (am 15), .ref (am 16), .ref (am 17), .ref (am 18), .ref (am 19)]))]) [0] rfl
  have hDc := hD.sub (ws' := [(om, .inr (4, [.int th, .int sa, .ref (am 0), .ref (am 1), .double mi, .ref (am 2), .ref (am 3), .ref (am 4), .int (nI nf), .ref (am 5), .ref (am 6), .ref (am 7), .ref (am 8), .ref (am 9), .ref (am 10), .ref (am 11), .ref (am 12), .ref (am 13), .ref (am 14), .ref (am 15), .ref (am 16), .ref (am 17), .ref (am 18), .ref (am 19)]))]) [0] (by decide) rfl
  have hFc := va_free (wc := [(om, .inr (4, [.int th, .int sa, .ref (am 0), .ref (am 1), .double mi, .ref (am 2), .ref (am 3), .ref (am 4), .int (nI nf), .ref (am 5), .ref (am 6), .ref (am 7), .ref (am 8), .ref (am 9), .ref (am 10), .ref (am 11), .ref (am 12), .ref (am 13), .ref (am 14), .ref (am 15), .ref (am 16), .ref (am 17), .ref (am 18), .ref (am 19)]))]) hD hS hA [0] rfl
  refine va_calli (va_runV (As := [.int f]) (rest := []) ⟨hx, hb, hml, hown, hts⟩ (m_X4_isFilter l G q s.heap.size om am th sa (nI nf) mi f) (cwV 1 hts gX4_of_X4_isFilter rfl rfl rfl (by decide +kernel) ⟨Nat.le_of_ble_eq_true rfl, Nat.le_of_ble_eq_true rfl⟩) ⟨preW_blind, (va_recv hK hPc (ci := 4) (q0 := 0) rfl rfl), preW_start hPc hK hDc hNF⟩ rfl rfl hl.1 rfl (lv_room (Nat.le_of_ble_eq_true rfl)) dX4_of_2 ⟨(Nat.zero_le _), (Nat.zero_le _)⟩) hS (fun q _ h => hFc q h) hFc (fun rf1 u9 t9 H1 locs ht9 hv9 hw hB9 hz9 hk9 hS => ?_)
  obtain ⟨⟩ := u9
  obtain ⟨hP1, hD1⟩ := hB9
  rw [ht9] at hP1
  obtain ⟨hP, hD⟩ := va_join (wr := []) (w1 := [(om, .inr (4, [.int th, .int sa, .ref (am 0), .ref (am 1), .double mi, .ref (am 2), .ref (am 3), .ref (am 4), .int (nI nf), .ref (am 5), .ref (am 6), .ref (am 7), .ref (am 8), .ref (am 9), .ref (am 10), .ref (am 11), .ref (am 12), .ref (am 13), .ref (am 14), .ref (am 15), .ref (am 16), .ref (am 17), .ref (am 18), .ref (am 19)]))]) hP hD [0] [] rfl rfl (by decide) (by decide) hk9 hFc hP1 hD1
  generalize H1 = H at hP hS ⊢
  have hP : va_P G vwCl [(om, .inr (4, [.int th, .int sa, .ref (am 0), .ref (am 1), .double mi, .ref (am 2), .ref (am 3), .ref (am 4), .int (nI nf), .ref (am 5), .ref (am 6), .ref (am 7), .ref (am 8), .ref (am 9), .ref (am 10), .ref (am 11), .ref (am 12), .ref (am 13), .ref (am 14), .ref (am 15), .ref (am 16), .ref (am 17), .ref (am 18), .ref (am 19)]))] H := hP
  have hD : va_D A [(om, .inr (4, [.int th, .int sa, .ref (am 0), .ref (am 1), .double mi, .ref (am 2), .ref (am 3), .ref (am 4), .int (nI nf), .ref (am 5), .ref (am 6), .ref (am 7), .ref (am 8), .ref (am 9), .ref (am 10), .ref (am 11), .ref (am 12), .ref (am 13), .ref (am 14), .ref (am 15), .ref (am 16), .ref (am 17), .ref (am 18), .ref (am 19)]))] := hD
  by_cases ci3 : isF f (nI nf)
  rotate_left
  · skip
    obtain rfl : rf1 = 0 := hw.trans (if_neg ci3)
    refine lv_istore_n (lv' := [(3, .int 0), (0, .ref om), (1, .int f), (2, .int xa)]) hx hb dX4_of_5 rfl hl (by decide) rfl (fun ls hl => ?_)
    refine lv_aload_n hx hb dX4_of_6 rfl (lv_at hl 1 rfl) ?_
    refine lv_iload_n hx hb dX4_of_7 rfl (lv_at hl 0 rfl) ?_
    refine lv_if_ne (tgt := 15) hx hb dX4_of_8 (by decide) (fun h => absurd (by decide) h) (fun _ => ?_)
    refine lv_iconst (v := 1) hx hb dX4_of_11 (by decide) ?_
    refine lv_goto (tgt := 29) hx hb dX4_of_12 (by decide) ?_
    have hPc := hP.sub (ws' := [(om, .inr (4, [.int th, .int sa, .ref (am 0), .ref (am 1), .double mi, .ref (am 2), .ref (am 3), .ref (am 4), .int (nI nf), .ref (am 5), .ref (am 6), .ref (am 7), .ref (am 8), .ref (am 9), .ref (am 10), .ref (am 11), .ref (am 12), .ref (am 13), .ref (am 14), .ref (am 15), .ref (am 16), .ref (am 17), .ref (am 18), .ref (am 19)]))]) [0] rfl
    have hDc := hD.sub (ws' := [(om, .inr (4, [.int th, .int sa, .ref (am 0), .ref (am 1), .double mi, .ref (am 2), .ref (am 3), .ref (am 4), .int (nI nf), .ref (am 5), .ref (am 6), .ref (am 7), .ref (am 8), .ref (am 9), .ref (am 10), .ref (am 11), .ref (am 12), .ref (am 13), .ref (am 14), .ref (am 15), .ref (am 16), .ref (am 17), .ref (am 18), .ref (am 19)]))]) [0] (by decide) rfl
    have hFc := va_free (wc := [(om, .inr (4, [.int th, .int sa, .ref (am 0), .ref (am 1), .double mi, .ref (am 2), .ref (am 3), .ref (am 4), .int (nI nf), .ref (am 5), .ref (am 6), .ref (am 7), .ref (am 8), .ref (am 9), .ref (am 10), .ref (am 11), .ref (am 12), .ref (am 13), .ref (am 14), .ref (am 15), .ref (am 16), .ref (am 17), .ref (am 18), .ref (am 19)]))]) hD hS hA [0] rfl
    refine va_calli (va_runV (As := [.int 1]) (rest := []) ⟨hx, hb, hml, hown, hts⟩ (m_X4_goesWell l G q H.size om am th sa (nI nf) mi 1) (cwV 1 hts gX4_of_X4_goesWell rfl rfl rfl (by decide +kernel) ⟨Nat.le_of_ble_eq_true rfl, Nat.le_of_ble_eq_true rfl⟩) ⟨preW_blind, (va_recv hK hPc (ci := 4) (q0 := 0) rfl rfl), preW_start hPc hK hDc hNF⟩ rfl rfl hl.1 rfl (lv_room (Nat.le_of_ble_eq_true rfl)) dX4_of_29 ⟨(Nat.zero_le _), (Nat.zero_le _)⟩) hS (fun q _ h => hFc q h) hFc (fun gr5 u9 t9 H1 locs ht9 hv9 hw hB9 hz9 hk9 hS => ?_)
    obtain ⟨⟩ := u9
    obtain ⟨hP1, hD1⟩ := hB9
    rw [ht9] at hP1
    obtain ⟨hP, hD⟩ := va_join (wr := []) (w1 := [(om, .inr (4, [.int 1, .int sa, .ref (am 0), .ref (am 1), .double mi, .ref (am 2), .ref (am 3), .ref (am 4), .int (nI nf), .ref (am 5), .ref (am 6), .ref (am 7), .ref (am 8), .ref (am 9), .ref (am 10), .ref (am 11), .ref (am 12), .ref (am 13), .ref (am 14), .ref (am 15), .ref (am 16), .ref (am 17), .ref (am 18), .ref (am 19)]))]) hP hD [0] [] rfl rfl (by decide) (by decide) hk9 hFc hP1 hD1
    generalize H1 = H at hP hS ⊢
    have hP : va_P G vwCl [(om, .inr (4, [.int 1, .int sa, .ref (am 0), .ref (am 1), .double mi, .ref (am 2), .ref (am 3), .ref (am 4), .int (nI nf), .ref (am 5), .ref (am 6), .ref (am 7), .ref (am 8), .ref (am 9), .ref (am 10), .ref (am 11), .ref (am 12), .ref (am 13), .ref (am 14), .ref (am 15), .ref (am 16), .ref (am 17), .ref (am 18), .ref (am 19)]))] H := hP
    have hD : va_D A [(om, .inr (4, [.int 1, .int sa, .ref (am 0), .ref (am 1), .double mi, .ref (am 2), .ref (am 3), .ref (am 4), .int (nI nf), .ref (am 5), .ref (am 6), .ref (am 7), .ref (am 8), .ref (am 9), .ref (am 10), .ref (am 11), .ref (am 12), .ref (am 13), .ref (am 14), .ref (am 15), .ref (am 16), .ref (am 17), .ref (am 18), .ref (am 19)]))] := hD
    obtain rfl : gr5 = 0 := hw.trans (by decide)
    refine lv_if_ne (tgt := 37) hx hb dX4_of_32 (by decide) (fun h => absurd (by decide) h) (fun _ => ?_)
    refine lv_dc0 hx hb dX4_of_35 ?_
    have hP9 := hP
    have hD9 := hD
    exact W.dret (v := 0) hx hb hr (fun t ht hW => ⟨⟨0, 1, rfl, by dsimp only; unfold ofC; rw [if_neg ci3], by rw [ht]; exact hP9, hD9⟩, hS.F ht⟩) hS.2.2 dX4_of_36
  obtain rfl : rf1 = 1 := hw.trans (if_pos ci3)
  refine lv_istore_n (lv' := [(3, .int 1), (0, .ref om), (1, .int f), (2, .int xa)]) hx hb dX4_of_5 rfl hl (by decide) rfl (fun ls hl => ?_)
  refine lv_aload_n hx hb dX4_of_6 rfl (lv_at hl 1 rfl) ?_
  refine lv_iload_n hx hb dX4_of_7 rfl (lv_at hl 0 rfl) ?_
  refine lv_if_ne (tgt := 15) hx hb dX4_of_8 (by decide) (fun _ => ?_) (fun h => absurd h (by decide))
  refine lv_iload_n hx hb dX4_of_15 rfl (lv_at hl 3 rfl) ?_
  refine lv_iconst (v := 0) hx hb dX4_of_16 (by decide) ?_
  refine lv_iconst (v := 3) hx hb dX4_of_17 (by decide) ?_
  have hPc := hP.sub (ws' := []) [] rfl
  have hDc := hD.sub (ws' := []) [] (by decide) rfl
  have hFc := va_free (wc := []) hD hS hA [] rfl
  refine va_calli (va_runS (As := [.int xa, .int 0, .int 3]) (rest := [.ref om]) ⟨hx, hb, hml, hown, hts⟩ (m_X4_in l G q H.size xa 0 3) (va_cwS 3 hts gX4_of_X4_in rfl rfl rfl (by decide +kernel) ⟨Nat.le_of_ble_eq_true rfl, Nat.le_of_ble_eq_true rfl⟩) ⟨preW_blind, preW_start hPc hK hDc hNF⟩ rfl rfl hl.1 rfl (lv_room (Nat.le_of_ble_eq_true rfl)) dX4_of_18 ⟨(Nat.zero_le _), (Nat.zero_le _)⟩) hS (fun q _ h => hFc q h) hFc (fun ri9 u9 t9 H1 locs ht9 hv9 hw hB9 hz9 hk9 hS => ?_)
  obtain ⟨⟩ := u9
  obtain ⟨hP1, hD1⟩ := hB9
  rw [ht9] at hP1
  obtain ⟨hP, hD⟩ := va_join (wr := [(om, .inr (4, [.int th, .int sa, .ref (am 0), .ref (am 1), .double mi, .ref (am 2), .ref (am 3), .ref (am 4), .int (nI nf), .ref (am 5), .ref (am 6), .ref (am 7), .ref (am 8), .ref (am 9), .ref (am 10), .ref (am 11), .ref (am 12), .ref (am 13), .ref (am 14), .ref (am 15), .ref (am 16), .ref (am 17), .ref (am 18), .ref (am 19)]))]) (w1 := []) hP hD [] [0] rfl rfl (by decide) (by decide) hk9 hFc hP1 hD1
  generalize H1 = H at hP hS ⊢
  have hP : va_P G vwCl [(om, .inr (4, [.int th, .int sa, .ref (am 0), .ref (am 1), .double mi, .ref (am 2), .ref (am 3), .ref (am 4), .int (nI nf), .ref (am 5), .ref (am 6), .ref (am 7), .ref (am 8), .ref (am 9), .ref (am 10), .ref (am 11), .ref (am 12), .ref (am 13), .ref (am 14), .ref (am 15), .ref (am 16), .ref (am 17), .ref (am 18), .ref (am 19)]))] H := hP
  have hD : va_D A [(om, .inr (4, [.int th, .int sa, .ref (am 0), .ref (am 1), .double mi, .ref (am 2), .ref (am 3), .ref (am 4), .int (nI nf), .ref (am 5), .ref (am 6), .ref (am 7), .ref (am 8), .ref (am 9), .ref (am 10), .ref (am 11), .ref (am 12), .ref (am 13), .ref (am 14), .ref (am 15), .ref (am 16), .ref (am 17), .ref (am 18), .ref (am 19)]))] := hD
  by_cases ci11 : 0 ≤ xa ∧ xa ≤ 3
  · skip
    exact absurd (by unfold ofC; rw [if_pos ci3, if_pos ci11]) hc
  obtain rfl : ri9 = 0 := hw.trans (if_neg ci11)
  refine lv_if_eq (tgt := 28) hx hb dX4_of_21 (by decide) (fun _ => ?_) (fun h => absurd (by decide) h)
  refine lv_iconst (v := 2) hx hb dX4_of_28 (by decide) ?_
  have hPc := hP.sub (ws' := [(om, .inr (4, [.int th, .int sa, .ref (am 0), .ref (am 1), .double mi, .ref (am 2), .ref (am 3), .ref (am 4), .int (nI nf), .ref (am 5), .ref (am 6), .ref (am 7), .ref (am 8), .ref (am 9), .ref (am 10), .ref (am 11), .ref (am 12), .ref (am 13), .ref (am 14), .ref (am 15), .ref (am 16), .ref (am 17), .ref (am 18), .ref (am 19)]))]) [0] rfl
  have hDc := hD.sub (ws' := [(om, .inr (4, [.int th, .int sa, .ref (am 0), .ref (am 1), .double mi, .ref (am 2), .ref (am 3), .ref (am 4), .int (nI nf), .ref (am 5), .ref (am 6), .ref (am 7), .ref (am 8), .ref (am 9), .ref (am 10), .ref (am 11), .ref (am 12), .ref (am 13), .ref (am 14), .ref (am 15), .ref (am 16), .ref (am 17), .ref (am 18), .ref (am 19)]))]) [0] (by decide) rfl
  have hFc := va_free (wc := [(om, .inr (4, [.int th, .int sa, .ref (am 0), .ref (am 1), .double mi, .ref (am 2), .ref (am 3), .ref (am 4), .int (nI nf), .ref (am 5), .ref (am 6), .ref (am 7), .ref (am 8), .ref (am 9), .ref (am 10), .ref (am 11), .ref (am 12), .ref (am 13), .ref (am 14), .ref (am 15), .ref (am 16), .ref (am 17), .ref (am 18), .ref (am 19)]))]) hD hS hA [0] rfl
  refine va_calli (va_runV (As := [.int 2]) (rest := []) ⟨hx, hb, hml, hown, hts⟩ (m_X4_goesWell l G q H.size om am th sa (nI nf) mi 2) (cwV 1 hts gX4_of_X4_goesWell rfl rfl rfl (by decide +kernel) ⟨Nat.le_of_ble_eq_true rfl, Nat.le_of_ble_eq_true rfl⟩) ⟨preW_blind, (va_recv hK hPc (ci := 4) (q0 := 0) rfl rfl), preW_start hPc hK hDc hNF⟩ rfl rfl hl.1 rfl (lv_room (Nat.le_of_ble_eq_true rfl)) dX4_of_29 ⟨(Nat.zero_le _), (Nat.zero_le _)⟩) hS (fun q _ h => hFc q h) hFc (fun gr13 u9 t9 H1 locs ht9 hv9 hw hB9 hz9 hk9 hS => ?_)
  obtain ⟨⟩ := u9
  obtain ⟨hP1, hD1⟩ := hB9
  rw [ht9] at hP1
  obtain ⟨hP, hD⟩ := va_join (wr := []) (w1 := [(om, .inr (4, [.int 2, .int sa, .ref (am 0), .ref (am 1), .double mi, .ref (am 2), .ref (am 3), .ref (am 4), .int (nI nf), .ref (am 5), .ref (am 6), .ref (am 7), .ref (am 8), .ref (am 9), .ref (am 10), .ref (am 11), .ref (am 12), .ref (am 13), .ref (am 14), .ref (am 15), .ref (am 16), .ref (am 17), .ref (am 18), .ref (am 19)]))]) hP hD [0] [] rfl rfl (by decide) (by decide) hk9 hFc hP1 hD1
  generalize H1 = H at hP hS ⊢
  have hP : va_P G vwCl [(om, .inr (4, [.int 2, .int sa, .ref (am 0), .ref (am 1), .double mi, .ref (am 2), .ref (am 3), .ref (am 4), .int (nI nf), .ref (am 5), .ref (am 6), .ref (am 7), .ref (am 8), .ref (am 9), .ref (am 10), .ref (am 11), .ref (am 12), .ref (am 13), .ref (am 14), .ref (am 15), .ref (am 16), .ref (am 17), .ref (am 18), .ref (am 19)]))] H := hP
  have hD : va_D A [(om, .inr (4, [.int 2, .int sa, .ref (am 0), .ref (am 1), .double mi, .ref (am 2), .ref (am 3), .ref (am 4), .int (nI nf), .ref (am 5), .ref (am 6), .ref (am 7), .ref (am 8), .ref (am 9), .ref (am 10), .ref (am 11), .ref (am 12), .ref (am 13), .ref (am 14), .ref (am 15), .ref (am 16), .ref (am 17), .ref (am 18), .ref (am 19)]))] := hD
  obtain rfl : gr13 = 0 := hw.trans (by decide)
  refine lv_if_ne (tgt := 37) hx hb dX4_of_32 (by decide) (fun h => absurd (by decide) h) (fun _ => ?_)
  refine lv_dc0 hx hb dX4_of_35 ?_
  have hP9 := hP
  have hD9 := hD
  exact W.dret (v := 0) hx hb hr (fun t ht hW => ⟨⟨0, 2, rfl, by dsimp only; unfold ofC; rw [if_pos ci3, if_neg ci11], by rw [ht]; exact hP9, hD9⟩, hS.F ht⟩) hS.2.2 dX4_of_36

set_option maxHeartbeats 4000000 in
set_option maxRecDepth 100000 in
/-- batch: where it throws -/
theorem m_X4_batch_no (l : Launch) (G : va_G) (q : Nat → ClassId) (sz : Nat) (om : Nat) (am : Nat → Nat) (th sa : Int32) (mi : UInt64) (nf : Nat) (xa : Int32) (hc : ¬ batchC xa = 0) : Met l yX4_batch wsX4_batch ({ frames := 1, cells := 0, slots := 0, locals := 22 } : Jvm.Room) (PreW G q [.ref om, .int xa] [(om, .inr (4, [.int th, .int sa, .ref (am 0), .ref (am 1), .double mi, .ref (am 2), .ref (am 3), .ref (am 4), .int (nI nf), .ref (am 5), .ref (am 6), .ref (am 7), .ref (am 8), .ref (am 9), .ref (am 10), .ref (am 11), .ref (am 12), .ref (am 13), .ref (am 14), .ref (am 15), .ref (am 16), .ref (am 17), .ref (am 18), .ref (am 19)]))] sz) (va_Qd (fun (_ : UInt64) (u : Int32) => u = batchC xa) (fun (u : Int32) t => EndA G (va_A [(om, .inr (4, [.int th, .int sa, .ref (am 0), .ref (am 1), .double mi, .ref (am 2), .ref (am 3), .ref (am 4), .int (nI nf), .ref (am 5), .ref (am 6), .ref (am 7), .ref (am 8), .ref (am 9), .ref (am 10), .ref (am 11), .ref (am 12), .ref (am 13), .ref (am 14), .ref (am 15), .ref (am 16), .ref (am 17), .ref (am 18), .ref (am 19)]))] sz) [(om, .inr (4, [.int u, .int sa, .ref (am 0), .ref (am 1), .double mi, .ref (am 2), .ref (am 3), .ref (am 4), .int (nI nf), .ref (am 5), .ref (am 6), .ref (am 7), .ref (am 8), .ref (am 9), .ref (am 10), .ref (am 11), .ref (am 12), .ref (am 13), .ref (am 14), .ref (am 15), .ref (am 16), .ref (am 17), .ref (am 18), .ref (am 19)]))] t) (va_A [(om, .inr (4, [.int th, .int sa, .ref (am 0), .ref (am 1), .double mi, .ref (am 2), .ref (am 3), .ref (am 4), .int (nI nf), .ref (am 5), .ref (am 6), .ref (am 7), .ref (am 8), .ref (am 9), .ref (am 10), .ref (am 11), .ref (am 12), .ref (am 13), .ref (am 14), .ref (am 15), .ref (am 16), .ref (am 17), .ref (am 18), .ref (am 19)]))] sz)) 0 0 (va_A [(om, .inr (4, [.int th, .int sa, .ref (am 0), .ref (am 1), .double mi, .ref (am 2), .ref (am 3), .ref (am 4), .int (nI nf), .ref (am 5), .ref (am 6), .ref (am 7), .ref (am 8), .ref (am 9), .ref (am 10), .ref (am 11), .ref (am 12), .ref (am 13), .ref (am 14), .ref (am 15), .ref (am 16), .ref (am 17), .ref (am 18), .ref (am 19)]))] sz) := by
  refine Met.ofW (cc := cX4_batch) (maxL := 18) (ret := (some .double)) (by decide +kernel) rfl ?_
  intro p e s m args below meth c s₁ B hml hv
  obtain ⟨rfl, hsz, hP, hK, hD0, hNF⟩ := hv
  have hx := B.exec
  have hb := B.bytes
  have hr := B.returns
  have hts := atoms_spec (ws := wsX4_batch) B.pre
  have hown : s.vm.findClass RX4 = some m.cls := findClass_of_methodNamed B.named
  have hlocks := B.notSynchronized
  subst hsz
  have hD := hD0.self (sz := s.heap.size)
  generalize hAe : va_A [(om, .inr (4, [.int th, .int sa, .ref (am 0), .ref (am 1), .double mi, .ref (am 2), .ref (am 3), .ref (am 4), .int (nI nf), .ref (am 5), .ref (am 6), .ref (am 7), .ref (am 8), .ref (am 9), .ref (am 10), .ref (am 11), .ref (am 12), .ref (am 13), .ref (am 14), .ref (am 15), .ref (am 16), .ref (am 17), .ref (am 18), .ref (am 19)]))] s.heap.size = A at hD ⊢
  have hA : ∀ q : Nat, s.heap.size ≤ q → A q := fun q h => by rw [← hAe]; exact Or.inr h
  have hS : va_S A s.heap s.heap [] := va_S.rf
  have hP : va_P G vwCl [(om, .inr (4, [.int th, .int sa, .ref (am 0), .ref (am 1), .double mi, .ref (am 2), .ref (am 3), .ref (am 4), .int (nI nf), .ref (am 5), .ref (am 6), .ref (am 7), .ref (am 8), .ref (am 9), .ref (am 10), .ref (am 11), .ref (am 12), .ref (am 13), .ref (am 14), .ref (am 15), .ref (am 16), .ref (am 17), .ref (am 18), .ref (am 19)]))] s.heap := hP
  have hl := lv_entry ([.ref om, .int xa]) (n := 18) (Nat.le_of_ble_eq_true rfl)
  rw [lg_entry_eq]
  generalize (lg_sl ([.ref om, .int xa]) ++ List.replicate (18 - (lg_sl ([.ref om, .int xa])).length) Slot.unset).toArray = ls at hl ⊢
  have hl : lv_has ls 18 [(0, .ref om), (1, .int xa)] := hl
  refine lv_aload_n hx hb dX4_batch_0 rfl (lv_at hl 0 rfl) ?_
  refine lv_iload_n hx hb dX4_batch_1 rfl (lv_at hl 1 rfl) ?_
  refine lv_iconst (v := 0) hx hb dX4_batch_2 (by decide) ?_
  refine lv_iconst (v := 1) hx hb dX4_batch_3 (by decide) ?_
  have hPc := hP.sub (ws' := []) [] rfl
  have hDc := hD.sub (ws' := []) [] (by decide) rfl
  have hFc := va_free (wc := []) hD hS hA [] rfl
  refine va_calli (va_runS (As := [.int xa, .int 0, .int 1]) (rest := [.ref om]) ⟨hx, hb, hml, hown, hts⟩ (m_X4_in l G q s.heap.size xa 0 1) (va_cwS 3 hts gX4_batch_X4_in rfl rfl rfl (by decide +kernel) ⟨Nat.le_of_ble_eq_true rfl, Nat.le_of_ble_eq_true rfl⟩) ⟨preW_blind, preW_start hPc hK hDc hNF⟩ rfl rfl hl.1 rfl (lv_room (Nat.le_of_ble_eq_true rfl)) dX4_batch_4 ⟨(Nat.zero_le _), (Nat.zero_le _)⟩) hS (fun q _ h => hFc q h) hFc (fun ri1 u9 t9 H1 locs ht9 hv9 hw hB9 hz9 hk9 hS => ?_)
  obtain ⟨⟩ := u9
  obtain ⟨hP1, hD1⟩ := hB9
  rw [ht9] at hP1
  obtain ⟨hP, hD⟩ := va_join (wr := [(om, .inr (4, [.int th, .int sa, .ref (am 0), .ref (am 1), .double mi, .ref (am 2), .ref (am 3), .ref (am 4), .int (nI nf), .ref (am 5), .ref (am 6), .ref (am 7), .ref (am 8), .ref (am 9), .ref (am 10), .ref (am 11), .ref (am 12), .ref (am 13), .ref (am 14), .ref (am 15), .ref (am 16), .ref (am 17), .ref (am 18), .ref (am 19)]))]) (w1 := []) hP hD [] [0] rfl rfl (by decide) (by decide) hk9 hFc hP1 hD1
  generalize H1 = H at hP hS ⊢
  have hP : va_P G vwCl [(om, .inr (4, [.int th, .int sa, .ref (am 0), .ref (am 1), .double mi, .ref (am 2), .ref (am 3), .ref (am 4), .int (nI nf), .ref (am 5), .ref (am 6), .ref (am 7), .ref (am 8), .ref (am 9), .ref (am 10), .ref (am 11), .ref (am 12), .ref (am 13), .ref (am 14), .ref (am 15), .ref (am 16), .ref (am 17), .ref (am 18), .ref (am 19)]))] H := hP
  have hD : va_D A [(om, .inr (4, [.int th, .int sa, .ref (am 0), .ref (am 1), .double mi, .ref (am 2), .ref (am 3), .ref (am 4), .int (nI nf), .ref (am 5), .ref (am 6), .ref (am 7), .ref (am 8), .ref (am 9), .ref (am 10), .ref (am 11), .ref (am 12), .ref (am 13), .ref (am 14), .ref (am 15), .ref (am 16), .ref (am 17), .ref (am 18), .ref (am 19)]))] := hD
  by_cases ci3 : 0 ≤ xa ∧ xa ≤ 1
  · skip
    exact absurd (by unfold batchC; rw [if_pos ci3]) hc
  obtain rfl : ri1 = 0 := hw.trans (if_neg ci3)
  refine lv_if_eq (tgt := 14) hx hb dX4_batch_7 (by decide) (fun _ => ?_) (fun h => absurd (by decide) h)
  refine lv_iconst (v := 1) hx hb dX4_batch_14 (by decide) ?_
  have hPc := hP.sub (ws' := [(om, .inr (4, [.int th, .int sa, .ref (am 0), .ref (am 1), .double mi, .ref (am 2), .ref (am 3), .ref (am 4), .int (nI nf), .ref (am 5), .ref (am 6), .ref (am 7), .ref (am 8), .ref (am 9), .ref (am 10), .ref (am 11), .ref (am 12), .ref (am 13), .ref (am 14), .ref (am 15), .ref (am 16), .ref (am 17), .ref (am 18), .ref (am 19)]))]) [0] rfl
  have hDc := hD.sub (ws' := [(om, .inr (4, [.int th, .int sa, .ref (am 0), .ref (am 1), .double mi, .ref (am 2), .ref (am 3), .ref (am 4), .int (nI nf), .ref (am 5), .ref (am 6), .ref (am 7), .ref (am 8), .ref (am 9), .ref (am 10), .ref (am 11), .ref (am 12), .ref (am 13), .ref (am 14), .ref (am 15), .ref (am 16), .ref (am 17), .ref (am 18), .ref (am 19)]))]) [0] (by decide) rfl
  have hFc := va_free (wc := [(om, .inr (4, [.int th, .int sa, .ref (am 0), .ref (am 1), .double mi, .ref (am 2), .ref (am 3), .ref (am 4), .int (nI nf), .ref (am 5), .ref (am 6), .ref (am 7), .ref (am 8), .ref (am 9), .ref (am 10), .ref (am 11), .ref (am 12), .ref (am 13), .ref (am 14), .ref (am 15), .ref (am 16), .ref (am 17), .ref (am 18), .ref (am 19)]))]) hD hS hA [0] rfl
  refine va_calli (va_runV (As := [.int 1]) (rest := []) ⟨hx, hb, hml, hown, hts⟩ (m_X4_goesWell l G q H.size om am th sa (nI nf) mi 1) (cwV 1 hts gX4_batch_X4_goesWell rfl rfl rfl (by decide +kernel) ⟨Nat.le_of_ble_eq_true rfl, Nat.le_of_ble_eq_true rfl⟩) ⟨preW_blind, (va_recv hK hPc (ci := 4) (q0 := 0) rfl rfl), preW_start hPc hK hDc hNF⟩ rfl rfl hl.1 rfl (lv_room (Nat.le_of_ble_eq_true rfl)) dX4_batch_15 ⟨(Nat.zero_le _), (Nat.zero_le _)⟩) hS (fun q _ h => hFc q h) hFc (fun gr5 u9 t9 H1 locs ht9 hv9 hw hB9 hz9 hk9 hS => ?_)
  obtain ⟨⟩ := u9
  obtain ⟨hP1, hD1⟩ := hB9
  rw [ht9] at hP1
  obtain ⟨hP, hD⟩ := va_join (wr := []) (w1 := [(om, .inr (4, [.int 1, .int sa, .ref (am 0), .ref (am 1), .double mi, .ref (am 2), .ref (am 3), .ref (am 4), .int (nI nf), .ref (am 5), .ref (am 6), .ref (am 7), .ref (am 8), .ref (am 9), .ref (am 10), .ref (am 11), .ref (am 12), .ref (am 13), .ref (am 14), .ref (am 15), .ref (am 16), .ref (am 17), .ref (am 18), .ref (am 19)]))]) hP hD [0] [] rfl rfl (by decide) (by decide) hk9 hFc hP1 hD1
  generalize H1 = H at hP hS ⊢
  have hP : va_P G vwCl [(om, .inr (4, [.int 1, .int sa, .ref (am 0), .ref (am 1), .double mi, .ref (am 2), .ref (am 3), .ref (am 4), .int (nI nf), .ref (am 5), .ref (am 6), .ref (am 7), .ref (am 8), .ref (am 9), .ref (am 10), .ref (am 11), .ref (am 12), .ref (am 13), .ref (am 14), .ref (am 15), .ref (am 16), .ref (am 17), .ref (am 18), .ref (am 19)]))] H := hP
  have hD : va_D A [(om, .inr (4, [.int 1, .int sa, .ref (am 0), .ref (am 1), .double mi, .ref (am 2), .ref (am 3), .ref (am 4), .int (nI nf), .ref (am 5), .ref (am 6), .ref (am 7), .ref (am 8), .ref (am 9), .ref (am 10), .ref (am 11), .ref (am 12), .ref (am 13), .ref (am 14), .ref (am 15), .ref (am 16), .ref (am 17), .ref (am 18), .ref (am 19)]))] := hD
  obtain rfl : gr5 = 0 := hw.trans (by decide)
  refine lv_if_ne (tgt := 23) hx hb dX4_batch_18 (by decide) (fun h => absurd (by decide) h) (fun _ => ?_)
  refine lv_dc0 hx hb dX4_batch_21 ?_
  have hP9 := hP
  have hD9 := hD
  exact W.dret (v := 0) hx hb hr (fun t ht hW => ⟨⟨0, 1, rfl, by dsimp only; unfold batchC; rw [if_neg ci3], by rw [ht]; exact hP9, hD9⟩, hS.F ht⟩) hS.2.2 dX4_batch_22
