theorem in_X2_renew_X2 : ∀ w ∈ wsX20, w ∈ wsX2_renew := by decide +kernel
set_option maxHeartbeats 4000000 in
set_option maxRecDepth 100000 in
/-- renew: P behind what was learned -/
theorem m_X2_renew (l : Launch) (G : va_G) (q : Nat → ClassId) (sz : Nat) (os an ag ah n : Nat) (ar : Nat → Nat) (P : Nat → Nat → UInt64) (fg fh : Nat → UInt64) (st : UInt64) (hn : n ≤ 4) (hst : fO (dV st) (dV 0) = some .gt) : MetD lw_cs l yX2_renew wsX2_renew ({ frames := 2, cells := 0, slots := 0, locals := 40 } : Jvm.Room) (PreW G q [.ref os, .double st] ([(os, .inr (2, [.int (nI n), .ref an, .ref ag, .ref ah])), (an, aA q n (fun j => if j < n then some (ar j) else none)), (ag, aD q n fg), (ah, aD q n fh)] ++ rowsW q n n ar P) sz) (va_Qi (fun (r : Int32) (P1 : Nat → Nat → UInt64) => r = bI (gAll (fun i => gR (dV st) (fun a c => dV (P a c)) (fun i => dV (fh i)) (fun j => dV (fg j)) i i) n) ∧ ∀ a c, a < n → c < n → dV (P1 a c) = gR (dV st) (fun a c => dV (P a c)) (fun i => dV (fh i)) (fun j => dV (fg j)) a c) (fun (P1 : Nat → Nat → UInt64) t => EndA G (va_A ([(os, .inr (2, [.int (nI n), .ref an, .ref ag, .ref ah])), (an, aA q n (fun j => if j < n then some (ar j) else none)), (ag, aD q n fg), (ah, aD q n fh)] ++ rowsW q n n ar P) sz) ([(os, .inr (2, [.int (nI n), .ref an, .ref ag, .ref ah])), (an, aA q n (fun j => if j < n then some (ar j) else none)), (ag, aD q n fg), (ah, aD q n fh)] ++ rowsW q n n ar P1) t) (va_A ([(os, .inr (2, [.int (nI n), .ref an, .ref ag, .ref ah])), (an, aA q n (fun j => if j < n then some (ar j) else none)), (ag, aD q n fg), (ah, aD q n fh)] ++ rowsW q n n ar P) sz)) 0 0 (va_A ([(os, .inr (2, [.int (nI n), .ref an, .ref ag, .ref ah])), (an, aA q n (fun j => if j < n then some (ar j) else none)), (ag, aD q n fg), (ah, aD q n fh)] ++ rowsW q n n ar P) sz) := by
  refine MetD.ofW (cc := cX2_renew) (maxL := 6) (ret := (some .boolean)) (by decide +kernel) rfl ?_
  intro p e s m args below meth c s₁ B hml hv hd0
  obtain ⟨rfl, hsz, hP, hK, hD0, hNF⟩ := hv
  have hx := B.exec
  have hb := B.bytes
  have hr := B.returns
  have hts := atoms_spec (ws := wsX2_renew) B.pre
  have hown : s.vm.findClass RX2 = some m.cls := findClass_of_methodNamed B.named
  have hlocks := B.notSynchronized
  subst hsz
  have hD := hD0.self (sz := s.heap.size)
  generalize hAe : va_A ([(os, .inr (2, [.int (nI n), .ref an, .ref ag, .ref ah])), (an, aA q n (fun j => if j < n then some (ar j) else none)), (ag, aD q n fg), (ah, aD q n fh)] ++ rowsW q n n ar P) s.heap.size = A at hD ⊢
  have hA : ∀ q : Nat, s.heap.size ≤ q → A q := fun q h => by rw [← hAe]; exact Or.inr h
  have hS : va_S A s.heap s.heap [] := va_S.rf
  have hP : va_P G vwCl ([(os, .inr (2, [.int (nI n), .ref an, .ref ag, .ref ah])), (an, aA q n (fun j => if j < n then some (ar j) else none)), (ag, aD q n fg), (ah, aD q n fh)] ++ rowsW q n n ar P) s.heap := hP
  have hl := lv_entry ([.ref os, .double st]) (n := 6) (Nat.le_of_ble_eq_true rfl)
  rw [lg_entry_eq]
  generalize (lg_sl ([.ref os, .double st]) ++ List.replicate (6 - (lg_sl ([.ref os, .double st])).length) Slot.unset).toArray = ls at hl ⊢
  have hl : lv_has ls 6 [(0, .ref os), (1, .double st)] := hl
  have LOOP : ∀ (k : Nat) (i : Nat) (sd : Bool) (P1 : Nat → Nat → UInt64), i + k = n → gAll (fun i => gR (dV st) (fun a c => dV (P a c)) (fun i => dV (fh i)) (fun j => dV (fg j)) i i) i = !sd → (∀ a c, a < n → c < n → dV (P1 a c) = if a < i ∨ (a = i ∧ c < 0) then gR (dV st) (fun a c => dV (P a c)) (fun i => dV (fh i)) (fun j => dV (fg j)) a c else dV (P a c)) → ∀ (H : Heap) (locs : List Loc) (d0 : Drawn), s.drawn.sameBut d0 lw_cs → va_P G vwCl ([(os, .inr (2, [.int (nI n), .ref an, .ref ag, .ref ah])), (an, aA q n (fun j => if j < n then some (ar j) else none)), (ag, aD q n fg), (ah, aD q n fh)] ++ rowsW q n n ar P1) H → va_D A ([(os, .inr (2, [.int (nI n), .ref an, .ref ag, .ref ah])), (an, aA q n (fun j => if j < n then some (ar j) else none)), (ag, aD q n fg), (ah, aD q n fh)] ++ rowsW q n n ar P1) → va_S A s.heap H locs → ∀ (ls : Array Slot), lv_has ls 6 [(0, .ref os), (1, .double st), (3, .int (bI sd)), (4, .int (nI i))] → W p l e (headSpec wsX2_renew ({ frames := 2, cells := 0, slots := 0, locals := 40 } : Jvm.Room)).room (s.setDrawn d0) m #[.ref os, .double st] below meth c H locs 0 0 (MQD lw_cs below (va_Qi (fun (r : Int32) (P1 : Nat → Nat → UInt64) => r = bI (gAll (fun i => gR (dV st) (fun a c => dV (P a c)) (fun i => dV (fh i)) (fun j => dV (fg j)) i i) n) ∧ ∀ a c, a < n → c < n → dV (P1 a c) = gR (dV st) (fun a c => dV (P a c)) (fun i => dV (fh i)) (fun j => dV (fg j)) a c) (fun (P1 : Nat → Nat → UInt64) t => EndA G A ([(os, .inr (2, [.int (nI n), .ref an, .ref ag, .ref ah])), (an, aA q n (fun j => if j < n then some (ar j) else none)), (ag, aD q n fg), (ah, aD q n fh)] ++ rowsW q n n ar P1) t) A) #[.ref os, .double st] s 0 0 A) (F0 m 13 ls []) := by
    intro k
    induction k with
    | zero =>
      intro i sd P1 hi hs h1 H locs d0 hd0 hP hD hS ls hl
      refine lv_iload hx hb dX2_renew_13 (lv_at hl 3 rfl) ?_
      refine lv_aload_n hx hb dX2_renew_15 rfl (lv_at hl 0 rfl) ?_
      refine va_get (D := G) (ci := 2) (v := .int (nI n)) (C := RX2) (T := TX2) (N := 4) hx hb (dr_words hts d0) in_X2_renew_X2 hown hK hP 0 rfl rfl 0 (by decide) (dr_words hts d0 (.fieldLink RX2 7 "EchoBench$Square" "size" "I") (by decide +kernel)) (fun _ h9 => h9) rfl dX2_renew_16 ?_
      refine lv_icmp_ge (tgt := 126) hx hb dX2_renew_19 (by decide) (fun _ => ?_) (fun h => absurd (nI_le (by omega) (by omega)) h)
      refine lv_iload_n hx hb dX2_renew_126 rfl (lv_at hl 2 rfl) ?_
      have hin : i = n := by omega
      rw [hin] at hs
      by_cases hsd : sd = true
      · skip
        refine lv_if_ne (tgt := 134) hx hb dX2_renew_127 (by decide) (fun _ => ?_) (fun h => absurd h (show ¬ bI sd = 0 by rw [hsd]; decide))
        refine lv_iconst (v := 0) hx hb dX2_renew_134 (by decide) ?_
        have hP9 := hP
        have hD9 := hD
        refine W.endD hd0 ?_
        exact W.zret (v := 0) hx hb hr (by decide) (fun t ht hW => ⟨⟨0, P1, rfl, ⟨by rw [hs, hsd]; rfl, fun a c ha hc => by rw [h1 a c ha hc, if_pos (by omega)]⟩, by rw [ht]; exact hP9, hD9⟩, hS.F ht⟩) hS.2.2 dX2_renew_135
      · skip
        refine lv_if_ne (tgt := 134) hx hb dX2_renew_127 (by decide) (fun h => absurd (show bI sd = 0 from if_neg hsd) h) (fun _ => ?_)
        refine lv_iconst (v := 1) hx hb dX2_renew_130 (by decide) ?_
        refine lv_goto (tgt := 135) hx hb dX2_renew_131 (by decide) ?_
        have hP9 := hP
        have hD9 := hD
        refine W.endD hd0 ?_
        exact W.zret (v := 1) hx hb hr (by decide) (fun t ht hW => ⟨⟨1, P1, rfl, ⟨by rw [hs, Bool.eq_false_iff.mpr hsd]; rfl, fun a c ha hc => by rw [h1 a c ha hc, if_pos (by omega)]⟩, by rw [ht]; exact hP9, hD9⟩, hS.F ht⟩) hS.2.2 dX2_renew_135
    | succ k ih =>
      intro i sd P1 hi hs h1 H locs d0 hd0 hP hD hS ls hl
      refine lv_iload hx hb dX2_renew_13 (lv_at hl 3 rfl) ?_
      refine lv_aload_n hx hb dX2_renew_15 rfl (lv_at hl 0 rfl) ?_
      refine va_get (D := G) (ci := 2) (v := .int (nI n)) (C := RX2) (T := TX2) (N := 4) hx hb (dr_words hts d0) in_X2_renew_X2 hown hK hP 0 rfl rfl 0 (by decide) (dr_words hts d0 (.fieldLink RX2 7 "EchoBench$Square" "size" "I") (by decide +kernel)) (fun _ h9 => h9) rfl dX2_renew_16 ?_
      refine lv_icmp_ge (tgt := 126) hx hb dX2_renew_19 (by decide) (fun h => absurd h (nI_ge (by omega) (by omega))) (fun _ => ?_)
      refine lv_iconst (v := 0) hx hb dX2_renew_22 (by decide) ?_
      refine lv_istore (lv' := [(5, .int 0), (0, .ref os), (1, .double st), (3, .int (bI sd)), (4, .int (nI i))]) hx hb dX2_renew_23 hl (by decide) rfl (fun ls hl => ?_)
      have LOOP2 : ∀ (k2 : Nat) (j : Nat) (P2 : Nat → Nat → UInt64), j + k2 = n → (∀ a c, a < n → c < n → dV (P2 a c) = if a < i ∨ (a = i ∧ c < j) then gR (dV st) (fun a c => dV (P a c)) (fun i => dV (fh i)) (fun j => dV (fg j)) a c else dV (P a c)) → ∀ (H : Heap) (locs : List Loc) (d0 : Drawn), s.drawn.sameBut d0 lw_cs → va_P G vwCl ([(os, .inr (2, [.int (nI n), .ref an, .ref ag, .ref ah])), (an, aA q n (fun j => if j < n then some (ar j) else none)), (ag, aD q n fg), (ah, aD q n fh)] ++ rowsW q n n ar P2) H → va_D A ([(os, .inr (2, [.int (nI n), .ref an, .ref ag, .ref ah])), (an, aA q n (fun j => if j < n then some (ar j) else none)), (ag, aD q n fg), (ah, aD q n fh)] ++ rowsW q n n ar P2) → va_S A s.heap H locs → ∀ (ls : Array Slot), lv_has ls 6 [(0, .ref os), (1, .double st), (3, .int (bI sd)), (4, .int (nI i)), (5, .int (nI j))] → W p l e (headSpec wsX2_renew ({ frames := 2, cells := 0, slots := 0, locals := 40 } : Jvm.Room)).room (s.setDrawn d0) m #[.ref os, .double st] below meth c H locs 0 0 (MQD lw_cs below (va_Qi (fun (r : Int32) (P1 : Nat → Nat → UInt64) => r = bI (gAll (fun i => gR (dV st) (fun a c => dV (P a c)) (fun i => dV (fh i)) (fun j => dV (fg j)) i i) n) ∧ ∀ a c, a < n → c < n → dV (P1 a c) = gR (dV st) (fun a c => dV (P a c)) (fun i => dV (fh i)) (fun j => dV (fg j)) a c) (fun (P1 : Nat → Nat → UInt64) t => EndA G A ([(os, .inr (2, [.int (nI n), .ref an, .ref ag, .ref ah])), (an, aA q n (fun j => if j < n then some (ar j) else none)), (ag, aD q n fg), (ah, aD q n fh)] ++ rowsW q n n ar P1) t) A) #[.ref os, .double st] s 0 0 A) (F0 m 25 ls []) := by
        intro k2
        induction k2 with
        | zero =>
          intro j P2 hj h2 H locs d0 hd0 hP hD hS ls hl
          refine lv_iload hx hb dX2_renew_25 (lv_at hl 4 rfl) ?_
          refine lv_aload_n hx hb dX2_renew_27 rfl (lv_at hl 0 rfl) ?_
          refine va_get (D := G) (ci := 2) (v := .int (nI n)) (C := RX2) (T := TX2) (N := 4) hx hb (dr_words hts d0) in_X2_renew_X2 hown hK hP 0 rfl rfl 0 (by decide) (dr_words hts d0 (.fieldLink RX2 7 "EchoBench$Square" "size" "I") (by decide +kernel)) (fun _ h9 => h9) rfl dX2_renew_28 ?_
          refine lv_icmp_ge (tgt := 78) hx hb dX2_renew_31 (by decide) (fun _ => ?_) (fun h => absurd (nI_le (by omega) (by omega)) h)
          refine lv_iload_n hx hb dX2_renew_78 rfl (lv_at hl 2 rfl) ?_
          have h3 := gr_row h2 (show n ≤ j by omega)
          have hd : dV (P2 i i) = gR (dV st) (fun a c => dV (P a c)) (fun i => dV (fh i)) (fun j => dV (fg j)) i i := by rw [h2 i i (by omega) (by omega), if_pos (by omega)]
          by_cases hsd : sd = true
          · skip
            refine lv_if_ne (tgt := 114) hx hb dX2_renew_79 (by decide) (fun _ => ?_) (fun h => absurd h (show ¬ bI sd = 0 by rw [hsd]; decide))
            refine lv_iconst (v := 1) hx hb dX2_renew_114 (by decide) ?_
            refine lv_goto (tgt := 119) hx hb dX2_renew_115 (by decide) ?_
            refine lv_istore_n (lv' := [(3, .int 1), (0, .ref os), (1, .double st), (4, .int (nI i)), (5, .int (nI j))]) hx hb dX2_renew_119 rfl hl (by decide) rfl (fun ls hl => ?_)
            refine lv_iinc (v := nI (i + 1)) (lv' := [(4, .int (nI (i + 1))), (3, .int 1), (0, .ref os), (1, .double st), (5, .int (nI j))]) hx hb dX2_renew_120 hl (k := 3) rfl (nI_succ _).symm (by decide) rfl (fun ls hl => ?_)
            refine lv_goto (tgt := 13) hx hb dX2_renew_123 (by decide) ?_
            exact ih (i + 1) true P2 (by omega) (gAll_f (f := fun i => gR (dV st) (fun a c => dV (P a c)) (fun i => dV (fh i)) (fun j => dV (fg j)) i i) (fun z => absurd (hs.symm.trans z) (by rw [hsd]; decide))) h3 _ _ _ hd0 (hP.part (cx := [(os, .inr (2, [.int (nI n), .ref an, .ref ag, .ref ah])), (an, aA q n (fun j => if j < n then some (ar j) else none)), (ag, aD q n fg), (ah, aD q n fh)]) [0, 1, 2, 3] rfl) (hD.part (cx := [(os, .inr (2, [.int (nI n), .ref an, .ref ag, .ref ah])), (an, aA q n (fun j => if j < n then some (ar j) else none)), (ag, aD q n fg), (ah, aD q n fh)]) [0, 1, 2, 3] (by decide) rfl) hS ls (lv_sub hl [2, 3, 1, 0] rfl)
          · skip
            refine lv_if_ne (tgt := 114) hx hb dX2_renew_79 (by decide) (fun h => absurd (show bI sd = 0 from if_neg hsd) h) (fun _ => ?_)
            refine lv_aload_n hx hb dX2_renew_82 rfl (lv_at hl 0 rfl) ?_
            refine va_get (D := G) (ci := 2) (v := .ref an) (C := RX2) (T := TX2) (N := 4) hx hb (dr_words hts d0) in_X2_renew_X2 hown hK hP 0 rfl rfl 1 (by decide) (dr_words hts d0 (.fieldLink RX2 15 "EchoBench$Square" "numbers" "[[D") (by decide +kernel)) (fun _ h9 => h9) rfl dX2_renew_83 ?_
            refine lv_iload hx hb dX2_renew_86 (lv_at hl 3 rfl) ?_
            refine va_aldAJ (s := s.setDrawn d0) hx hb hK hP 1 2 rfl rfl (j := i) rfl (by omega) (by omega) (if_pos (by omega)) dX2_renew_88 ?_
            refine lv_iload hx hb dX2_renew_89 (lv_at hl 3 rfl) ?_
            refine va_daldJ (s := s.setDrawn d0) hx hb hK hP (4 + i) 1 (rowsW_get (by omega) rfl) rfl (j := i) rfl (by omega) (by omega) dX2_renew_91 ?_
            refine lv_ldc2d hx hb hown (dr_words hts d0 (.constantDouble RX2 39 4696837146684686336) (by decide +kernel)) dX2_renew_92 ?_
            refine lv_dcmp hx hb dX2_renew_95 ?_
            have hg : gAll (fun i => gR (dV st) (fun a c => dV (P a c)) (fun i => dV (fh i)) (fun j => dV (fg j)) i i) i = true := hs.trans (by rw [Bool.eq_false_iff.mpr hsd]; rfl)
            refine lv_if_gt (tgt := 114) hx hb dX2_renew_96 (by decide) (fun c1 => ?_) (fun c1 => ?_)
            · skip
              rw [dcmp_fO, hd] at c1
              have c1 := cl_gt2 c1
              refine lv_iconst (v := 1) hx hb dX2_renew_114 (by decide) ?_
              refine lv_goto (tgt := 119) hx hb dX2_renew_115 (by decide) ?_
              refine lv_istore_n (lv' := [(3, .int 1), (0, .ref os), (1, .double st), (4, .int (nI i)), (5, .int (nI j))]) hx hb dX2_renew_119 rfl hl (by decide) rfl (fun ls hl => ?_)
              refine lv_iinc (v := nI (i + 1)) (lv' := [(4, .int (nI (i + 1))), (3, .int 1), (0, .ref os), (1, .double st), (5, .int (nI j))]) hx hb dX2_renew_120 hl (k := 3) rfl (nI_succ _).symm (by decide) rfl (fun ls hl => ?_)
              refine lv_goto (tgt := 13) hx hb dX2_renew_123 (by decide) ?_
              exact ih (i + 1) true P2 (by omega) (gAll_n (f := fun i => gR (dV st) (fun a c => dV (P a c)) (fun i => dV (fh i)) (fun j => dV (fg j)) i i) (fun z => z.1 c1)) h3 _ _ _ hd0 (hP.part (cx := [(os, .inr (2, [.int (nI n), .ref an, .ref ag, .ref ah])), (an, aA q n (fun j => if j < n then some (ar j) else none)), (ag, aD q n fg), (ah, aD q n fh)]) [0, 1, 2, 3] rfl) (hD.part (cx := [(os, .inr (2, [.int (nI n), .ref an, .ref ag, .ref ah])), (an, aA q n (fun j => if j < n then some (ar j) else none)), (ag, aD q n fg), (ah, aD q n fh)]) [0, 1, 2, 3] (by decide) rfl) hS ls (lv_sub hl [2, 3, 1, 0] rfl)
            · skip
              rw [dcmp_fO, hd] at c1
              have c1 := cl_ngt2 c1
              refine lv_aload_n hx hb dX2_renew_99 rfl (lv_at hl 0 rfl) ?_
              refine va_get (D := G) (ci := 2) (v := .ref an) (C := RX2) (T := TX2) (N := 4) hx hb (dr_words hts d0) in_X2_renew_X2 hown hK hP 0 rfl rfl 1 (by decide) (dr_words hts d0 (.fieldLink RX2 15 "EchoBench$Square" "numbers" "[[D") (by decide +kernel)) (fun _ h9 => h9) rfl dX2_renew_100 ?_
              refine lv_iload hx hb dX2_renew_103 (lv_at hl 3 rfl) ?_
              refine va_aldAJ (s := s.setDrawn d0) hx hb hK hP 1 2 rfl rfl (j := i) rfl (by omega) (by omega) (if_pos (by omega)) dX2_renew_105 ?_
              refine lv_iload hx hb dX2_renew_106 (lv_at hl 3 rfl) ?_
              refine va_daldJ (s := s.setDrawn d0) hx hb hK hP (4 + i) 1 (rowsW_get (by omega) rfl) rfl (j := i) rfl (by omega) (by omega) dX2_renew_108 ?_
              refine lv_dc0 hx hb dX2_renew_109 ?_
              refine lv_dcmp hx hb dX2_renew_110 ?_
              refine lv_if_ge (tgt := 118) hx hb dX2_renew_111 (by decide) (fun c2 => ?_) (fun c2 => ?_)
              · skip
                rw [cg_ge, dcmp_fO, hd] at c2
                refine lv_iconst (v := 0) hx hb dX2_renew_118 (by decide) ?_
                refine lv_istore_n (lv' := [(3, .int 0), (0, .ref os), (1, .double st), (4, .int (nI i)), (5, .int (nI j))]) hx hb dX2_renew_119 rfl hl (by decide) rfl (fun ls hl => ?_)
                refine lv_iinc (v := nI (i + 1)) (lv' := [(4, .int (nI (i + 1))), (3, .int 0), (0, .ref os), (1, .double st), (5, .int (nI j))]) hx hb dX2_renew_120 hl (k := 3) rfl (nI_succ _).symm (by decide) rfl (fun ls hl => ?_)
                refine lv_goto (tgt := 13) hx hb dX2_renew_123 (by decide) ?_
                exact ih (i + 1) false P2 (by omega) (gAll_y (f := fun i => gR (dV st) (fun a c => dV (P a c)) (fun i => dV (fh i)) (fun j => dV (fg j)) i i) hg ⟨c1, c2⟩) h3 _ _ _ hd0 (hP.part (cx := [(os, .inr (2, [.int (nI n), .ref an, .ref ag, .ref ah])), (an, aA q n (fun j => if j < n then some (ar j) else none)), (ag, aD q n fg), (ah, aD q n fh)]) [0, 1, 2, 3] rfl) (hD.part (cx := [(os, .inr (2, [.int (nI n), .ref an, .ref ag, .ref ah])), (an, aA q n (fun j => if j < n then some (ar j) else none)), (ag, aD q n fg), (ah, aD q n fh)]) [0, 1, 2, 3] (by decide) rfl) hS ls (lv_sub hl [2, 3, 1, 0] rfl)
              · skip
                rw [cg_ge, dcmp_fO, hd, Classical.not_not] at c2
                refine lv_iconst (v := 1) hx hb dX2_renew_114 (by decide) ?_
                refine lv_goto (tgt := 119) hx hb dX2_renew_115 (by decide) ?_
                refine lv_istore_n (lv' := [(3, .int 1), (0, .ref os), (1, .double st), (4, .int (nI i)), (5, .int (nI j))]) hx hb dX2_renew_119 rfl hl (by decide) rfl (fun ls hl => ?_)
                refine lv_iinc (v := nI (i + 1)) (lv' := [(4, .int (nI (i + 1))), (3, .int 1), (0, .ref os), (1, .double st), (5, .int (nI j))]) hx hb dX2_renew_120 hl (k := 3) rfl (nI_succ _).symm (by decide) rfl (fun ls hl => ?_)
                refine lv_goto (tgt := 13) hx hb dX2_renew_123 (by decide) ?_
                exact ih (i + 1) true P2 (by omega) (gAll_n (f := fun i => gR (dV st) (fun a c => dV (P a c)) (fun i => dV (fh i)) (fun j => dV (fg j)) i i) (fun z => z.2 c2)) h3 _ _ _ hd0 (hP.part (cx := [(os, .inr (2, [.int (nI n), .ref an, .ref ag, .ref ah])), (an, aA q n (fun j => if j < n then some (ar j) else none)), (ag, aD q n fg), (ah, aD q n fh)]) [0, 1, 2, 3] rfl) (hD.part (cx := [(os, .inr (2, [.int (nI n), .ref an, .ref ag, .ref ah])), (an, aA q n (fun j => if j < n then some (ar j) else none)), (ag, aD q n fg), (ah, aD q n fh)]) [0, 1, 2, 3] (by decide) rfl) hS ls (lv_sub hl [2, 3, 1, 0] rfl)
        | succ k2 ih2 =>
          intro j P2 hj h2 H locs d0 hd0 hP hD hS ls hl
          refine lv_iload hx hb dX2_renew_25 (lv_at hl 4 rfl) ?_
          refine lv_aload_n hx hb dX2_renew_27 rfl (lv_at hl 0 rfl) ?_
          refine va_get (D := G) (ci := 2) (v := .int (nI n)) (C := RX2) (T := TX2) (N := 4) hx hb (dr_words hts d0) in_X2_renew_X2 hown hK hP 0 rfl rfl 0 (by decide) (dr_words hts d0 (.fieldLink RX2 7 "EchoBench$Square" "size" "I") (by decide +kernel)) (fun _ h9 => h9) rfl dX2_renew_28 ?_
          refine lv_icmp_ge (tgt := 78) hx hb dX2_renew_31 (by decide) (fun h => absurd h (nI_ge (by omega) (by omega))) (fun _ => ?_)
          refine lv_aload_n hx hb dX2_renew_34 rfl (lv_at hl 0 rfl) ?_
          refine va_get (D := G) (ci := 2) (v := .ref an) (C := RX2) (T := TX2) (N := 4) hx hb (dr_words hts d0) in_X2_renew_X2 hown hK hP 0 rfl rfl 1 (by decide) (dr_words hts d0 (.fieldLink RX2 15 "EchoBench$Square" "numbers" "[[D") (by decide +kernel)) (fun _ h9 => h9) rfl dX2_renew_35 ?_
          refine lv_iload hx hb dX2_renew_38 (lv_at hl 3 rfl) ?_
          refine va_aldAJ (s := s.setDrawn d0) hx hb hK hP 1 2 rfl rfl (j := i) rfl (by omega) (by omega) (if_pos (by omega)) dX2_renew_40 ?_
          refine lv_iload hx hb dX2_renew_41 (lv_at hl 4 rfl) ?_
          refine lv_aload_n hx hb dX2_renew_43 rfl (lv_at hl 0 rfl) ?_
          refine va_get (D := G) (ci := 2) (v := .ref an) (C := RX2) (T := TX2) (N := 4) hx hb (dr_words hts d0) in_X2_renew_X2 hown hK hP 0 rfl rfl 1 (by decide) (dr_words hts d0 (.fieldLink RX2 15 "EchoBench$Square" "numbers" "[[D") (by decide +kernel)) (fun _ h9 => h9) rfl dX2_renew_44 ?_
          refine lv_iload hx hb dX2_renew_47 (lv_at hl 3 rfl) ?_
          refine va_aldAJ (s := s.setDrawn d0) hx hb hK hP 1 2 rfl rfl (j := i) rfl (by omega) (by omega) (if_pos (by omega)) dX2_renew_49 ?_
          refine lv_iload hx hb dX2_renew_50 (lv_at hl 4 rfl) ?_
          refine va_daldJ (s := s.setDrawn d0) hx hb hK hP (4 + i) 1 (rowsW_get (by omega) rfl) rfl (j := j) rfl (by omega) (by omega) dX2_renew_52 ?_
          refine lv_aload_n hx hb dX2_renew_53 rfl (lv_at hl 0 rfl) ?_
          refine va_get (D := G) (ci := 2) (v := .ref ah) (C := RX2) (T := TX2) (N := 4) hx hb (dr_words hts d0) in_X2_renew_X2 hown hK hP 0 rfl rfl 3 (by decide) (dr_words hts d0 (.fieldLink RX2 22 "EchoBench$Square" "shares" "[D") (by decide +kernel)) (fun _ h9 => h9) rfl dX2_renew_54 ?_
          refine lv_iload hx hb dX2_renew_57 (lv_at hl 3 rfl) ?_
          refine va_daldJ (s := s.setDrawn d0) hx hb hK hP 3 1 rfl rfl (j := i) rfl (by omega) (by omega) dX2_renew_59 ?_
          refine lv_aload_n hx hb dX2_renew_60 rfl (lv_at hl 0 rfl) ?_
          refine va_get (D := G) (ci := 2) (v := .ref ag) (C := RX2) (T := TX2) (N := 4) hx hb (dr_words hts d0) in_X2_renew_X2 hown hK hP 0 rfl rfl 2 (by decide) (dr_words hts d0 (.fieldLink RX2 18 "EchoBench$Square" "g" "[D") (by decide +kernel)) (fun _ h9 => h9) rfl dX2_renew_61 ?_
          refine lv_iload hx hb dX2_renew_64 (lv_at hl 4 rfl) ?_
          refine va_daldJ (s := s.setDrawn d0) hx hb hK hP 2 1 rfl rfl (j := j) rfl (by omega) (by omega) dX2_renew_66 ?_
          refine lv_dmul_any hd0 lw_bits hx hb dX2_renew_67 (fun r9 dr9 ar9 hr9 => ?_)
          have er9 := dV_mul ar9
          refine lv_dsub_any hr9 lw_bits hx hb dX2_renew_68 (fun r10 dr10 ar10 hr10 => ?_)
          have er10 := dV_sub ar10
          refine lv_dload_n hx hb dX2_renew_69 rfl (lv_at hl 1 rfl) ?_
          refine lv_ddiv_any hr10 lw_bits hx hb dX2_renew_70 (fun r11 dr11 ar11 hr11 => ?_)
          have er11 := dV_div ar11
          refine va_dastJ (s := s.setDrawn dr11) hx hb hK hP hD hS (4 + i) 1 (rowsW_get (by omega) rfl) rfl (j := j) rfl (by omega) (by omega) dX2_renew_71 (fun H locs hP hD hS => ?_)
          have hP := (congrArg (fun z => va_P G vwCl z H) (rowsW_set (q := q) (w := n) (n := n) (ad := ar) (P := P2) (X := [(os, .inr (2, [.int (nI n), .ref an, .ref ag, .ref ah])), (an, aA q n (fun j => if j < n then some (ar j) else none)), (ag, aD q n fg), (ah, aD q n fh)]) (j := i) (k := 4 + i) (f := vf_upd (P2 i) j r11) (by omega) rfl)).mp hP
          have hD := (congrArg (fun z => va_D A z) (rowsW_set (q := q) (w := n) (n := n) (ad := ar) (P := P2) (X := [(os, .inr (2, [.int (nI n), .ref an, .ref ag, .ref ah])), (an, aA q n (fun j => if j < n then some (ar j) else none)), (ag, aD q n fg), (ah, aD q n fh)]) (j := i) (k := 4 + i) (f := vf_upd (P2 i) j r11) (by omega) rfl)).mp hD
          have hP : va_P G vwCl ([(os, .inr (2, [.int (nI n), .ref an, .ref ag, .ref ah])), (an, aA q n (fun j => if j < n then some (ar j) else none)), (ag, aD q n fg), (ah, aD q n fh)] ++ rowsW q n n ar (upP P2 i j r11)) H := hP
          have hD : va_D A ([(os, .inr (2, [.int (nI n), .ref an, .ref ag, .ref ah])), (an, aA q n (fun j => if j < n then some (ar j) else none)), (ag, aD q n fg), (ah, aD q n fh)] ++ rowsW q n n ar (upP P2 i j r11)) := hD
          refine lv_iinc (v := nI (j + 1)) (lv' := [(5, .int (nI (j + 1))), (0, .ref os), (1, .double st), (3, .int (bI sd)), (4, .int (nI i))]) hx hb dX2_renew_72 hl (k := 4) rfl (nI_succ _).symm (by decide) rfl (fun ls hl => ?_)
          refine lv_goto (tgt := 25) hx hb dX2_renew_75 (by decide) ?_
          exact ih2 (j + 1) (upP P2 i j r11) (by omega) (gr_step (Q := gR (dV st) (fun a c => dV (P a c)) (fun i => dV (fh i)) (fun j => dV (fg j))) (by rw [er11, er10, er9, h2 i j (by omega) (by omega), if_neg (by omega)]) h2) _ _ _ hr11 (hP.part (cx := [(os, .inr (2, [.int (nI n), .ref an, .ref ag, .ref ah])), (an, aA q n (fun j => if j < n then some (ar j) else none)), (ag, aD q n fg), (ah, aD q n fh)]) [0, 1, 2, 3] rfl) (hD.part (cx := [(os, .inr (2, [.int (nI n), .ref an, .ref ag, .ref ah])), (an, aA q n (fun j => if j < n then some (ar j) else none)), (ag, aD q n fg), (ah, aD q n fh)]) [0, 1, 2, 3] (by decide) rfl) hS ls (lv_sub hl [1, 2, 3, 4, 0] rfl)
      exact LOOP2 n 0 P1 (by omega) h1 _ _ _ hd0 (hP.part (cx := [(os, .inr (2, [.int (nI n), .ref an, .ref ag, .ref ah])), (an, aA q n (fun j => if j < n then some (ar j) else none)), (ag, aD q n fg), (ah, aD q n fh)]) [0, 1, 2, 3] rfl) (hD.part (cx := [(os, .inr (2, [.int (nI n), .ref an, .ref ag, .ref ah])), (an, aA q n (fun j => if j < n then some (ar j) else none)), (ag, aD q n fg), (ah, aD q n fh)]) [0, 1, 2, 3] (by decide) rfl) hS ls (lv_sub hl [1, 2, 3, 4, 0] rfl)
  refine lv_dload_n hx hb dX2_renew_0 rfl (lv_at hl 1 rfl) ?_
  refine lv_dc0 hx hb dX2_renew_1 ?_
  refine lv_dcmp hx hb dX2_renew_2 ?_
  refine lv_if_gt (tgt := 8) hx hb dX2_renew_3 (by decide) (fun _ => ?_) (fun h => absurd (show 0 < Op.cmpValue (FP.dcmp st 0) CmpOp.g from (cg_gt _).mpr (Or.inl hst)) h)
  refine lv_iconst (v := 0) hx hb dX2_renew_8 (by decide) ?_
  refine lv_istore_n (lv' := [(3, .int 0), (0, .ref os), (1, .double st)]) hx hb dX2_renew_9 rfl hl (by decide) rfl (fun ls hl => ?_)
  refine lv_iconst (v := 0) hx hb dX2_renew_10 (by decide) ?_
  refine lv_istore (lv' := [(4, .int 0), (3, .int 0), (0, .ref os), (1, .double st)]) hx hb dX2_renew_11 hl (by decide) rfl (fun ls hl => ?_)
  exact LOOP n 0 false P (by omega) rfl (fun a c _ _ => by rw [if_neg (by omega)]) _ _ _ hd0 (hP.part (cx := [(os, .inr (2, [.int (nI n), .ref an, .ref ag, .ref ah])), (an, aA q n (fun j => if j < n then some (ar j) else none)), (ag, aD q n fg), (ah, aD q n fh)]) [0, 1, 2, 3] rfl) (hD.part (cx := [(os, .inr (2, [.int (nI n), .ref an, .ref ag, .ref ah])), (an, aA q n (fun j => if j < n then some (ar j) else none)), (ag, aD q n fg), (ah, aD q n fh)]) [0, 1, 2, 3] (by decide) rfl) hS ls (lv_sub hl [2, 3, 1, 0] rfl)
