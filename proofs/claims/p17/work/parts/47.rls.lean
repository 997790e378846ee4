/-! ===== RLS: the arithmetic of the class ===== -/
abbrev gAdd : Dt → Dt → Dt := fAdd
abbrev gMul : Dt → Dt → Dt := fMul
abbrev gDiv : Dt → Dt → Dt := fDiv
abbrev gSub : Dt → Dt → Dt := fSub
abbrev gSnd (d : Dt) : Prop := ¬ fO d (dV 4696837146684686336) = some .gt ∧ ¬ fO d (dV 0) = some .lt

def gSm (a : Dt) (f : Nat → Dt) : Nat → Dt
  | 0 => a
  | n + 1 => gAdd (gSm a f n) (f n)
theorem gSm_congr {a : Dt} {f g : Nat → Dt} {n : Nat} (h : ∀ i, i < n → f i = g i) : gSm a f n = gSm a g n := by
  induction n with
  | zero => rfl
  | succ n ih =>
    show gAdd _ _ = gAdd _ _
    rw [ih (fun i hi => h i (by omega)), h n (by omega)]
def gOut (n : Nat) (w : Nat → Dt) (xi : Nat → Int32) : Dt := gSm (dV 0) (fun k => gMul (w k) (fI (xi k))) n
theorem gOut_congr {n : Nat} {w v : Nat → Dt} {xi : Nat → Int32} (h : ∀ i, i < n → w i = v i) : gOut n w xi = gOut n v xi := gSm_congr fun i hi => by rw [h i hi]
def gM (n : Nat) (st : Dt) (P : Nat → Nat → Dt) (xi : Nat → Int32) : Dt := gSm st (fun i => gMul (fI (xi i)) (gOut n (P i) xi)) n
theorem gM_congr {n : Nat} {st : Dt} {P Q : Nat → Nat → Dt} {xi : Nat → Int32} (h : ∀ a c, a < n → c < n → P a c = Q a c) : gM n st P xi = gM n st Q xi := gSm_congr fun i hi => by rw [gOut_congr (fun c hc => h i c hi hc)]
def gK (n : Nat) (st : Dt) (P : Nat → Nat → Dt) (xi : Nat → Int32) (i : Nat) : Dt := gDiv (gOut n (P i) xi) (gM n st P xi)
def gQ (n : Nat) (st : Dt) (P : Nat → Nat → Dt) (xi : Nat → Int32) (i j : Nat) : Dt := fDiv (gSub (P i j) (gMul (gK n st P xi i) (gOut n (P j) xi))) st
abbrev gLow (n : Nat) (st : Dt) (P : Nat → Nat → Dt) (xi : Nat → Int32) : Prop := fO (gM n st P xi) (dV 4517329193108106637) = some .lt
/-- P behind it, of what k and g are -/
abbrev gR (st : Dt) (P : Nat → Nat → Dt) (k g : Nat → Dt) (i j : Nat) : Dt := fDiv (gSub (P i j) (gMul (k i) (g j))) st
def gAll (f : Nat → Dt) : Nat → Bool
  | 0 => true
  | j + 1 => gAll f j && decide (gSnd (f j))
theorem gAll_congr {f g : Nat → Dt} {n : Nat} (h : ∀ i, i < n → f i = g i) : gAll f n = gAll g n := by
  induction n with
  | zero => rfl
  | succ n ih =>
    show (_ && _) = (_ && _)
    rw [ih (fun i hi => h i (by omega)), h n (by omega)]
theorem gAll_f {f : Nat → Dt} {i : Nat} (h : ¬ gAll f i = true) : gAll f (i + 1) = false := by
  show (gAll f i && _) = false
  rw [Bool.eq_false_iff.mpr h]; rfl
theorem gAll_n {f : Nat → Dt} {i : Nat} (h : ¬ gSnd (f i)) : gAll f (i + 1) = false := by
  show (_ && decide (gSnd (f i))) = false
  rw [decide_eq_false h, Bool.and_false]
theorem gAll_y {f : Nat → Dt} {i : Nat} (h : gAll f i = true) (h2 : gSnd (f i)) : gAll f (i + 1) = true := by
  show (gAll f i && decide (gSnd (f i))) = true
  rw [h, decide_eq_true h2]; rfl
/-- one number of P is written -/
theorem gr_step {F : Nat → Nat → UInt64} {Q P : Nat → Nat → Dt} {i j n : Nat} {v : UInt64} (hv : dV v = Q i j) (h : ∀ a c, a < n → c < n → dV (F a c) = if a < i ∨ (a = i ∧ c < j) then Q a c else P a c) :
    ∀ a c, a < n → c < n → dV (upP F i j v a c) = if a < i ∨ (a = i ∧ c < j + 1) then Q a c else P a c := by
  intro a c ha hc
  unfold upP vf_upd
  by_cases e : a = i
  · rw [if_pos e]
    by_cases f : c = j
    · rw [if_pos f, hv, if_pos (by omega), e, f]
    · rw [if_neg f, ← e, h a c ha hc]
      by_cases d : a < i ∨ (a = i ∧ c < j)
      · rw [if_pos d, if_pos (by omega)]
      · rw [if_neg d, if_neg (by omega)]
  · rw [if_neg e, h a c ha hc]
    by_cases d : a < i ∨ (a = i ∧ c < j)
    · rw [if_pos d, if_pos (by omega)]
    · rw [if_neg d, if_neg (by omega)]
theorem gr_row {F : Nat → Nat → UInt64} {Q P : Nat → Nat → Dt} {i j n : Nat} (h : ∀ a c, a < n → c < n → dV (F a c) = if a < i ∨ (a = i ∧ c < j) then Q a c else P a c) (hj : n ≤ j) :
    ∀ a c, a < n → c < n → dV (F a c) = if a < i + 1 ∨ (a = i + 1 ∧ c < 0) then Q a c else P a c := by
  intro a c ha hc
  rw [h a c ha hc]
  by_cases z : a < i + 1
  · rw [if_pos (by omega), if_pos (by omega)]
  · rw [if_neg (by omega), if_neg (by omega)]
theorem in_X2_rowTimes_X2 : ∀ w ∈ wsX20, w ∈ wsX2_rowTimes := by decide +kernel
set_option maxHeartbeats 4000000 in
set_option maxRecDepth 100000 in
/-- rowTimes -/
theorem m_X2_rowTimes (l : Launch) (G : va_G) (q : Nat → ClassId) (sz : Nat) (os an ag ah n : Nat) (ar : Nat → Nat) (P : Nat → Nat → UInt64) (ax i : Nat) (xi : Nat → Int32) (hn : n ≤ 4) (hi : i < n) : MetD lw_cs l yX2_rowTimes wsX2_rowTimes ({ frames := 2, cells := 0, slots := 0, locals := 40 } : Jvm.Room) (PreW G q [.ref os, .int (nI i), .ref ax] ([(os, .inr (2, [.int (nI n), .ref an, .ref ag, .ref ah])), (an, aA q n (fun j => if j < n then some (ar j) else none)), (ax, aD q 8 (fun k => FP.i2d (xi k)))] ++ rowsW q n n ar P) sz) (va_Qd (fun (r : UInt64) (_ : Unit) => dV r = gOut n (fun j => dV (P i j)) xi) (fun (_ : Unit) t => EndA G (va_A ([(os, .inr (2, [.int (nI n), .ref an, .ref ag, .ref ah])), (an, aA q n (fun j => if j < n then some (ar j) else none)), (ax, aD q 8 (fun k => FP.i2d (xi k)))] ++ rowsW q n n ar P) sz) ([(os, .inr (2, [.int (nI n), .ref an, .ref ag, .ref ah])), (an, aA q n (fun j => if j < n then some (ar j) else none)), (ax, aD q 8 (fun k => FP.i2d (xi k)))] ++ rowsW q n n ar P) t) (va_A ([(os, .inr (2, [.int (nI n), .ref an, .ref ag, .ref ah])), (an, aA q n (fun j => if j < n then some (ar j) else none)), (ax, aD q 8 (fun k => FP.i2d (xi k)))] ++ rowsW q n n ar P) sz)) 0 0 (va_A ([(os, .inr (2, [.int (nI n), .ref an, .ref ag, .ref ah])), (an, aA q n (fun j => if j < n then some (ar j) else none)), (ax, aD q 8 (fun k => FP.i2d (xi k)))] ++ rowsW q n n ar P) sz) := by
  refine MetD.ofW (cc := cX2_rowTimes) (maxL := 6) (ret := (some .double)) (by decide +kernel) rfl ?_
  intro p e s m args below meth c s₁ B hml hv hd0
  obtain ⟨rfl, hsz, hP, hK, hD0, hNF⟩ := hv
  have hx := B.exec
  have hb := B.bytes
  have hr := B.returns
  have hts := atoms_spec (ws := wsX2_rowTimes) B.pre
  have hown : s.vm.findClass RX2 = some m.cls := findClass_of_methodNamed B.named
  have hlocks := B.notSynchronized
  subst hsz
  have hD := hD0.self (sz := s.heap.size)
  generalize hAe : va_A ([(os, .inr (2, [.int (nI n), .ref an, .ref ag, .ref ah])), (an, aA q n (fun j => if j < n then some (ar j) else none)), (ax, aD q 8 (fun k => FP.i2d (xi k)))] ++ rowsW q n n ar P) s.heap.size = A at hD ⊢
  have hA : ∀ q : Nat, s.heap.size ≤ q → A q := fun q h => by rw [← hAe]; exact Or.inr h
  have hS : va_S A s.heap s.heap [] := va_S.rf
  have hP : va_P G vwCl ([(os, .inr (2, [.int (nI n), .ref an, .ref ag, .ref ah])), (an, aA q n (fun j => if j < n then some (ar j) else none)), (ax, aD q 8 (fun k => FP.i2d (xi k)))] ++ rowsW q n n ar P) s.heap := hP
  have hl := lv_entry ([.ref os, .int (nI i), .ref ax]) (n := 6) (Nat.le_of_ble_eq_true rfl)
  rw [lg_entry_eq]
  generalize (lg_sl ([.ref os, .int (nI i), .ref ax]) ++ List.replicate (6 - (lg_sl ([.ref os, .int (nI i), .ref ax])).length) Slot.unset).toArray = ls at hl ⊢
  have hl : lv_has ls 6 [(0, .ref os), (1, .int (nI i)), (2, .ref ax)] := hl
  have LOOP : ∀ (k : Nat) (j : Nat) (a : UInt64), j + k = n → dV a = gSm (dV 0) (fun j => gMul (dV (P i j)) (fI (xi j))) j → ∀ (H : Heap) (locs : List Loc) (d0 : Drawn), s.drawn.sameBut d0 lw_cs → va_P G vwCl ([(os, .inr (2, [.int (nI n), .ref an, .ref ag, .ref ah])), (an, aA q n (fun j => if j < n then some (ar j) else none)), (ax, aD q 8 (fun k => FP.i2d (xi k)))] ++ rowsW q n n ar P) H → va_D A ([(os, .inr (2, [.int (nI n), .ref an, .ref ag, .ref ah])), (an, aA q n (fun j => if j < n then some (ar j) else none)), (ax, aD q 8 (fun k => FP.i2d (xi k)))] ++ rowsW q n n ar P) → va_S A s.heap H locs → ∀ (ls : Array Slot), lv_has ls 6 [(0, .ref os), (1, .int (nI i)), (2, .ref ax), (3, .double a), (5, .int (nI j))] → W p l e (headSpec wsX2_rowTimes ({ frames := 2, cells := 0, slots := 0, locals := 40 } : Jvm.Room)).room (s.setDrawn d0) m #[.ref os, .int (nI i), .ref ax] below meth c H locs 0 0 (MQD lw_cs below (va_Qd (fun (r : UInt64) (_ : Unit) => dV r = gOut n (fun j => dV (P i j)) xi) (fun (_ : Unit) t => EndA G A ([(os, .inr (2, [.int (nI n), .ref an, .ref ag, .ref ah])), (an, aA q n (fun j => if j < n then some (ar j) else none)), (ax, aD q 8 (fun k => FP.i2d (xi k)))] ++ rowsW q n n ar P) t) A) #[.ref os, .int (nI i), .ref ax] s 0 0 A) (F0 m 17 ls []) := by
    intro k
    induction k with
    | zero =>
      intro j a hj ha H locs d0 hd0 hP hD hS ls hl
      refine lv_iload hx hb dX2_rowTimes_17 (lv_at hl 4 rfl) ?_
      refine lv_aload_n hx hb dX2_rowTimes_19 rfl (lv_at hl 0 rfl) ?_
      refine va_get (D := G) (ci := 2) (v := .int (nI n)) (C := RX2) (T := TX2) (N := 4) hx hb (dr_words hts d0) in_X2_rowTimes_X2 hown hK hP 0 rfl rfl 0 (by decide) (dr_words hts d0 (.fieldLink RX2 7 "EchoBench$Square" "size" "I") (by decide +kernel)) (fun _ h9 => h9) rfl dX2_rowTimes_20 ?_
      refine lv_icmp_ge (tgt := 56) hx hb dX2_rowTimes_23 (by decide) (fun _ => ?_) (fun h => absurd (nI_le (by omega) (by omega)) h)
      refine lv_dload_n hx hb dX2_rowTimes_56 rfl (lv_at hl 3 rfl) ?_
      have hP9 := hP
      have hD9 := hD
      refine W.endD hd0 ?_
      exact W.dret (v := a) hx hb hr (fun t ht hW => ⟨⟨a, (), rfl, by dsimp only; rw [ha, show j = n by omega]; rfl, by rw [ht]; exact hP9, hD9⟩, hS.F ht⟩) hS.2.2 dX2_rowTimes_57
    | succ k ih =>
      intro j a hj ha H locs d0 hd0 hP hD hS ls hl
      refine lv_iload hx hb dX2_rowTimes_17 (lv_at hl 4 rfl) ?_
      refine lv_aload_n hx hb dX2_rowTimes_19 rfl (lv_at hl 0 rfl) ?_
      refine va_get (D := G) (ci := 2) (v := .int (nI n)) (C := RX2) (T := TX2) (N := 4) hx hb (dr_words hts d0) in_X2_rowTimes_X2 hown hK hP 0 rfl rfl 0 (by decide) (dr_words hts d0 (.fieldLink RX2 7 "EchoBench$Square" "size" "I") (by decide +kernel)) (fun _ h9 => h9) rfl dX2_rowTimes_20 ?_
      refine lv_icmp_ge (tgt := 56) hx hb dX2_rowTimes_23 (by decide) (fun h => absurd h (nI_ge (by omega) (by omega))) (fun _ => ?_)
      refine lv_iload hx hb dX2_rowTimes_26 (lv_at hl 4 rfl) ?_
      refine lv_aload_n hx hb dX2_rowTimes_28 rfl (lv_at hl 2 rfl) ?_
      refine va_alen (s := s.setDrawn d0) (D := G) hx hb hK hP 2 1 rfl rfl (v := 8) rfl dX2_rowTimes_29 ?_
      refine lv_icmp_ge (tgt := 56) hx hb dX2_rowTimes_30 (by decide) (fun h => absurd h (nI_ge (b := 8) (by omega) (by omega))) (fun _ => ?_)
      refine lv_dload_n hx hb dX2_rowTimes_33 rfl (lv_at hl 3 rfl) ?_
      refine lv_aload_n hx hb dX2_rowTimes_34 rfl (lv_at hl 0 rfl) ?_
      refine va_get (D := G) (ci := 2) (v := .ref an) (C := RX2) (T := TX2) (N := 4) hx hb (dr_words hts d0) in_X2_rowTimes_X2 hown hK hP 0 rfl rfl 1 (by decide) (dr_words hts d0 (.fieldLink RX2 15 "EchoBench$Square" "numbers" "[[D") (by decide +kernel)) (fun _ h9 => h9) rfl dX2_rowTimes_35 ?_
      refine lv_iload_n hx hb dX2_rowTimes_38 rfl (lv_at hl 1 rfl) ?_
      refine va_aldAJ (s := s.setDrawn d0) hx hb hK hP 1 2 rfl rfl (j := i) rfl (by omega) (by omega) (if_pos (by omega)) dX2_rowTimes_39 ?_
      refine lv_iload hx hb dX2_rowTimes_40 (lv_at hl 4 rfl) ?_
      refine va_daldJ (s := s.setDrawn d0) hx hb hK hP (3 + i) 1 (rowsW_get (by omega) rfl) rfl (j := j) rfl (by omega) (by omega) dX2_rowTimes_42 ?_
      refine lv_aload_n hx hb dX2_rowTimes_43 rfl (lv_at hl 2 rfl) ?_
      refine lv_iload hx hb dX2_rowTimes_44 (lv_at hl 4 rfl) ?_
      refine va_daldJ (s := s.setDrawn d0) hx hb hK hP 2 1 rfl rfl (j := j) rfl (by omega) (by decide) dX2_rowTimes_46 ?_
      refine lv_dmul_any hd0 lw_bits hx hb dX2_rowTimes_47 (fun r4 dr4 ar4 hr4 => ?_)
      have er4 := dV_mul ar4
      refine lv_dadd_any hr4 lw_bits hx hb dX2_rowTimes_48 (fun r5 dr5 ar5 hr5 => ?_)
      have er5 := dV_add ar5
      refine lv_dstore_n (lv' := [(3, .double r5), (0, .ref os), (1, .int (nI i)), (2, .ref ax), (5, .int (nI j))]) hx hb dX2_rowTimes_49 rfl hl (by decide) rfl (fun ls hl => ?_)
      refine lv_iinc (v := nI (j + 1)) (lv' := [(5, .int (nI (j + 1))), (3, .double r5), (0, .ref os), (1, .int (nI i)), (2, .ref ax)]) hx hb dX2_rowTimes_50 hl (k := 4) rfl (nI_succ _).symm (by decide) rfl (fun ls hl => ?_)
      refine lv_goto (tgt := 17) hx hb dX2_rowTimes_53 (by decide) ?_
      exact ih (j + 1) r5 (by omega) (by rw [er5, er4, ha]; rfl) _ _ _ hr5 (hP.part (cx := [(os, .inr (2, [.int (nI n), .ref an, .ref ag, .ref ah])), (an, aA q n (fun j => if j < n then some (ar j) else none)), (ax, aD q 8 (fun k => FP.i2d (xi k)))]) [0, 1, 2] rfl) (hD.part (cx := [(os, .inr (2, [.int (nI n), .ref an, .ref ag, .ref ah])), (an, aA q n (fun j => if j < n then some (ar j) else none)), (ax, aD q 8 (fun k => FP.i2d (xi k)))]) [0, 1, 2] (by decide) rfl) hS ls (lv_sub hl [2, 3, 4, 1, 0] rfl)
  refine lv_dc0 hx hb dX2_rowTimes_0 ?_
  refine lv_dstore_n (lv' := [(3, .double 0), (0, .ref os), (1, .int (nI i)), (2, .ref ax)]) hx hb dX2_rowTimes_1 rfl hl (by decide) rfl (fun ls hl => ?_)
  refine lv_iload_n hx hb dX2_rowTimes_2 rfl (lv_at hl 2 rfl) ?_
  refine lv_if_lt (tgt := 56) hx hb dX2_rowTimes_3 (by decide) (fun h => absurd h (Int32.not_lt.mpr (nI_pos' (by omega)))) (fun _ => ?_)
  refine lv_iload_n hx hb dX2_rowTimes_6 rfl (lv_at hl 2 rfl) ?_
  refine lv_aload_n hx hb dX2_rowTimes_7 rfl (lv_at hl 1 rfl) ?_
  refine va_get (D := G) (ci := 2) (v := .int (nI n)) (C := RX2) (T := TX2) (N := 4) hx hb (dr_words hts s.drawn) in_X2_rowTimes_X2 hown hK hP 0 rfl rfl 0 (by decide) (dr_words hts s.drawn (.fieldLink RX2 7 "EchoBench$Square" "size" "I") (by decide +kernel)) (fun _ h9 => h9) rfl dX2_rowTimes_8 ?_
  refine lv_icmp_ge (tgt := 56) hx hb dX2_rowTimes_11 (by decide) (fun h => absurd h (nI_ge (by omega) (by omega))) (fun _ => ?_)
  refine lv_iconst (v := 0) hx hb dX2_rowTimes_14 (by decide) ?_
  refine lv_istore (lv' := [(5, .int 0), (3, .double 0), (0, .ref os), (1, .int (nI i)), (2, .ref ax)]) hx hb dX2_rowTimes_15 hl (by decide) rfl (fun ls hl => ?_)
  exact LOOP n 0 0 (by omega) rfl _ _ _ hd0 (hP.part (cx := [(os, .inr (2, [.int (nI n), .ref an, .ref ag, .ref ah])), (an, aA q n (fun j => if j < n then some (ar j) else none)), (ax, aD q 8 (fun k => FP.i2d (xi k)))]) [0, 1, 2] rfl) (hD.part (cx := [(os, .inr (2, [.int (nI n), .ref an, .ref ag, .ref ah])), (an, aA q n (fun j => if j < n then some (ar j) else none)), (ax, aD q 8 (fun k => FP.i2d (xi k)))]) [0, 1, 2] (by decide) rfl) hS ls (lv_sub hl [2, 3, 4, 1, 0] rfl)

theorem in_X2_prepare_X2 : ∀ w ∈ wsX20, w ∈ wsX2_prepare := by decide +kernel
set_option maxHeartbeats 4000000 in
set_option maxRecDepth 100000 in
/-- prepare: g, m and k -/
theorem m_X2_prepare (l : Launch) (G : va_G) (q : Nat → ClassId) (sz : Nat) (os an ag ah n : Nat) (ar : Nat → Nat) (P : Nat → Nat → UInt64) (ax : Nat) (xi : Nat → Int32) (fg fh : Nat → UInt64) (st : UInt64) (hn : n ≤ 4) : MetD lw_cs l yX2_prepare wsX2_prepare ({ frames := 3, cells := 0, slots := 0, locals := 80 } : Jvm.Room) (PreW G q [.ref os, .ref ax, .double st] ([(os, .inr (2, [.int (nI n), .ref an, .ref ag, .ref ah])), (an, aA q n (fun j => if j < n then some (ar j) else none)), (ag, aD q n fg), (ah, aD q n fh), (ax, aD q 8 (fun k => FP.i2d (xi k)))] ++ rowsW q n n ar P) sz) (va_Qi (fun (r : Int32) (u : (Nat → UInt64) × (Nat → UInt64)) => r = (if fO (gM n (dV st) (fun i j => dV (P i j)) xi) (dV 4517329193108106637) = some .lt then 0 else 1) ∧ (∀ i, i < n → dV (u.1 i) = gOut n (fun j => dV (P i j)) xi) ∧ (¬ fO (gM n (dV st) (fun i j => dV (P i j)) xi) (dV 4517329193108106637) = some .lt → ∀ i, i < n → dV (u.2 i) = gDiv (gOut n (fun j => dV (P i j)) xi) (gM n (dV st) (fun i j => dV (P i j)) xi))) (fun (u : (Nat → UInt64) × (Nat → UInt64)) t => EndA G (va_A ([(os, .inr (2, [.int (nI n), .ref an, .ref ag, .ref ah])), (an, aA q n (fun j => if j < n then some (ar j) else none)), (ag, aD q n fg), (ah, aD q n fh), (ax, aD q 8 (fun k => FP.i2d (xi k)))] ++ rowsW q n n ar P) sz) ([(os, .inr (2, [.int (nI n), .ref an, .ref ag, .ref ah])), (an, aA q n (fun j => if j < n then some (ar j) else none)), (ag, aD q n u.1), (ah, aD q n u.2), (ax, aD q 8 (fun k => FP.i2d (xi k)))] ++ rowsW q n n ar P) t) (va_A ([(os, .inr (2, [.int (nI n), .ref an, .ref ag, .ref ah])), (an, aA q n (fun j => if j < n then some (ar j) else none)), (ag, aD q n fg), (ah, aD q n fh), (ax, aD q 8 (fun k => FP.i2d (xi k)))] ++ rowsW q n n ar P) sz)) 0 0 (va_A ([(os, .inr (2, [.int (nI n), .ref an, .ref ag, .ref ah])), (an, aA q n (fun j => if j < n then some (ar j) else none)), (ag, aD q n fg), (ah, aD q n fh), (ax, aD q 8 (fun k => FP.i2d (xi k)))] ++ rowsW q n n ar P) sz) := by
  refine MetD.ofW (cc := cX2_prepare) (maxL := 7) (ret := (some .boolean)) (by decide +kernel) rfl ?_
  intro p e s m args below meth c s₁ B hml hv hd0
  obtain ⟨rfl, hsz, hP, hK, hD0, hNF⟩ := hv
  have hx := B.exec
  have hb := B.bytes
  have hr := B.returns
  have hts := atoms_spec (ws := wsX2_prepare) B.pre
  have hown : s.vm.findClass RX2 = some m.cls := findClass_of_methodNamed B.named
  have hlocks := B.notSynchronized
  subst hsz
  have hD := hD0.self (sz := s.heap.size)
  generalize hAe : va_A ([(os, .inr (2, [.int (nI n), .ref an, .ref ag, .ref ah])), (an, aA q n (fun j => if j < n then some (ar j) else none)), (ag, aD q n fg), (ah, aD q n fh), (ax, aD q 8 (fun k => FP.i2d (xi k)))] ++ rowsW q n n ar P) s.heap.size = A at hD ⊢
  have hA : ∀ q : Nat, s.heap.size ≤ q → A q := fun q h => by rw [← hAe]; exact Or.inr h
  have hS : va_S A s.heap s.heap [] := va_S.rf
  have hP : va_P G vwCl ([(os, .inr (2, [.int (nI n), .ref an, .ref ag, .ref ah])), (an, aA q n (fun j => if j < n then some (ar j) else none)), (ag, aD q n fg), (ah, aD q n fh), (ax, aD q 8 (fun k => FP.i2d (xi k)))] ++ rowsW q n n ar P) s.heap := hP
  have hl := lv_entry ([.ref os, .ref ax, .double st]) (n := 7) (Nat.le_of_ble_eq_true rfl)
  rw [lg_entry_eq]
  generalize (lg_sl ([.ref os, .ref ax, .double st]) ++ List.replicate (7 - (lg_sl ([.ref os, .ref ax, .double st])).length) Slot.unset).toArray = ls at hl ⊢
  have hl : lv_has ls 7 [(0, .ref os), (1, .ref ax), (2, .double st)] := hl
  have LOOP : ∀ (k : Nat) (i : Nat) (a : UInt64) (f : Nat → UInt64), i + k = n → dV a = gSm (dV st) (fun i => gMul (fI (xi i)) (gOut n (fun j => dV (P i j)) xi)) i → (∀ i', i' < i → dV (f i') = gOut n (fun j => dV (P i' j)) xi) → ∀ (H : Heap) (locs : List Loc) (d0 : Drawn), s.drawn.sameBut d0 lw_cs → va_P G vwCl ([(os, .inr (2, [.int (nI n), .ref an, .ref ag, .ref ah])), (an, aA q n (fun j => if j < n then some (ar j) else none)), (ag, aD q n f), (ah, aD q n fh), (ax, aD q 8 (fun k => FP.i2d (xi k)))] ++ rowsW q n n ar P) H → va_D A ([(os, .inr (2, [.int (nI n), .ref an, .ref ag, .ref ah])), (an, aA q n (fun j => if j < n then some (ar j) else none)), (ag, aD q n f), (ah, aD q n fh), (ax, aD q 8 (fun k => FP.i2d (xi k)))] ++ rowsW q n n ar P) → va_S A s.heap H locs → ∀ (ls : Array Slot), lv_has ls 7 [(0, .ref os), (1, .ref ax), (2, .double st), (4, .double a), (6, .int (nI i))] → W p l e (headSpec wsX2_prepare ({ frames := 3, cells := 0, slots := 0, locals := 80 } : Jvm.Room)).room (s.setDrawn d0) m #[.ref os, .ref ax, .double st] below meth c H locs 0 0 (MQD lw_cs below (va_Qi (fun (r : Int32) (u : (Nat → UInt64) × (Nat → UInt64)) => r = (if fO (gM n (dV st) (fun i j => dV (P i j)) xi) (dV 4517329193108106637) = some .lt then 0 else 1) ∧ (∀ i, i < n → dV (u.1 i) = gOut n (fun j => dV (P i j)) xi) ∧ (¬ fO (gM n (dV st) (fun i j => dV (P i j)) xi) (dV 4517329193108106637) = some .lt → ∀ i, i < n → dV (u.2 i) = gDiv (gOut n (fun j => dV (P i j)) xi) (gM n (dV st) (fun i j => dV (P i j)) xi))) (fun (u : (Nat → UInt64) × (Nat → UInt64)) t => EndA G A ([(os, .inr (2, [.int (nI n), .ref an, .ref ag, .ref ah])), (an, aA q n (fun j => if j < n then some (ar j) else none)), (ag, aD q n u.1), (ah, aD q n u.2), (ax, aD q 8 (fun k => FP.i2d (xi k)))] ++ rowsW q n n ar P) t) A) #[.ref os, .ref ax, .double st] s 0 0 A) (F0 m 6 ls []) := by
    intro k
    induction k with
    | zero =>
      intro i a f hi ha h1 H locs d0 hd0 hP hD hS ls hl
      refine lv_iload hx hb dX2_prepare_6 (lv_at hl 4 rfl) ?_
      refine lv_aload_n hx hb dX2_prepare_8 rfl (lv_at hl 0 rfl) ?_
      refine va_get (D := G) (ci := 2) (v := .int (nI n)) (C := RX2) (T := TX2) (N := 4) hx hb (dr_words hts d0) in_X2_prepare_X2 hown hK hP 0 rfl rfl 0 (by decide) (dr_words hts d0 (.fieldLink RX2 7 "EchoBench$Square" "size" "I") (by decide +kernel)) (fun _ h9 => h9) rfl dX2_prepare_9 ?_
      refine lv_icmp_ge (tgt := 59) hx hb dX2_prepare_12 (by decide) (fun _ => ?_) (fun h => absurd (nI_le (by omega) (by omega)) h)
      refine lv_dload hx hb dX2_prepare_59 (lv_at hl 3 rfl) ?_
      refine lv_ldc2d hx hb hown (dr_words hts d0 (.constantDouble RX2 37 4517329193108106637) (by decide +kernel)) dX2_prepare_61 ?_
      refine lv_dcmp hx hb dX2_prepare_64 ?_
      have ei : i = n := by omega
      have hM : dV a = gM n (dV st) (fun i j => dV (P i j)) xi := by rw [ha, ei]; rfl
      refine lv_if_ge (tgt := 70) hx hb dX2_prepare_65 (by decide) (fun c1 => ?_) (fun c1 => ?_)
      · skip
        rw [cg_ge, dcmp_fO, hM] at c1
        refine lv_iconst (v := 0) hx hb dX2_prepare_70 (by decide) ?_
        refine lv_istore (lv' := [(6, .int 0), (0, .ref os), (1, .ref ax), (2, .double st), (4, .double a)]) hx hb dX2_prepare_71 hl (by decide) rfl (fun ls hl => ?_)
        have LOOP3 : ∀ (k2 : Nat) (j : Nat) (f2 : Nat → UInt64), j + k2 = n → (∀ i', i' < j → dV (f2 i') = gDiv (dV (f i')) (dV a)) → ∀ (H : Heap) (locs : List Loc) (d0 : Drawn), s.drawn.sameBut d0 lw_cs → va_P G vwCl ([(os, .inr (2, [.int (nI n), .ref an, .ref ag, .ref ah])), (an, aA q n (fun j => if j < n then some (ar j) else none)), (ag, aD q n f), (ah, aD q n f2), (ax, aD q 8 (fun k => FP.i2d (xi k)))] ++ rowsW q n n ar P) H → va_D A ([(os, .inr (2, [.int (nI n), .ref an, .ref ag, .ref ah])), (an, aA q n (fun j => if j < n then some (ar j) else none)), (ag, aD q n f), (ah, aD q n f2), (ax, aD q 8 (fun k => FP.i2d (xi k)))] ++ rowsW q n n ar P) → va_S A s.heap H locs → ∀ (ls : Array Slot), lv_has ls 7 [(0, .ref os), (1, .ref ax), (2, .double st), (4, .double a), (6, .int (nI j))] → W p l e (headSpec wsX2_prepare ({ frames := 3, cells := 0, slots := 0, locals := 80 } : Jvm.Room)).room (s.setDrawn d0) m #[.ref os, .ref ax, .double st] below meth c H locs 0 0 (MQD lw_cs below (va_Qi (fun (r : Int32) (u : (Nat → UInt64) × (Nat → UInt64)) => r = (if fO (gM n (dV st) (fun i j => dV (P i j)) xi) (dV 4517329193108106637) = some .lt then 0 else 1) ∧ (∀ i, i < n → dV (u.1 i) = gOut n (fun j => dV (P i j)) xi) ∧ (¬ fO (gM n (dV st) (fun i j => dV (P i j)) xi) (dV 4517329193108106637) = some .lt → ∀ i, i < n → dV (u.2 i) = gDiv (gOut n (fun j => dV (P i j)) xi) (gM n (dV st) (fun i j => dV (P i j)) xi))) (fun (u : (Nat → UInt64) × (Nat → UInt64)) t => EndA G A ([(os, .inr (2, [.int (nI n), .ref an, .ref ag, .ref ah])), (an, aA q n (fun j => if j < n then some (ar j) else none)), (ag, aD q n u.1), (ah, aD q n u.2), (ax, aD q 8 (fun k => FP.i2d (xi k)))] ++ rowsW q n n ar P) t) A) #[.ref os, .ref ax, .double st] s 0 0 A) (F0 m 73 ls []) := by
          intro k2
          induction k2 with
          | zero =>
            intro j f2 hj h2 H locs d0 hd0 hP hD hS ls hl
            refine lv_iload hx hb dX2_prepare_73 (lv_at hl 4 rfl) ?_
            refine lv_aload_n hx hb dX2_prepare_75 rfl (lv_at hl 0 rfl) ?_
            refine va_get (D := G) (ci := 2) (v := .int (nI n)) (C := RX2) (T := TX2) (N := 4) hx hb (dr_words hts d0) in_X2_prepare_X2 hown hK hP 0 rfl rfl 0 (by decide) (dr_words hts d0 (.fieldLink RX2 7 "EchoBench$Square" "size" "I") (by decide +kernel)) (fun _ h9 => h9) rfl dX2_prepare_76 ?_
            refine lv_icmp_ge (tgt := 105) hx hb dX2_prepare_79 (by decide) (fun _ => ?_) (fun h => absurd (nI_le (by omega) (by omega)) h)
            refine lv_iconst (v := 1) hx hb dX2_prepare_105 (by decide) ?_
            have hP9 := hP
            have hD9 := hD
            refine W.endD hd0 ?_
            exact W.zret (v := 1) hx hb hr (by decide) (fun t ht hW => ⟨⟨1, (f, f2), rfl, ⟨(if_neg c1).symm, fun i1 hi1 => h1 i1 (by omega), fun _ i1 hi1 => by dsimp only; rw [h2 i1 (by omega), h1 i1 (by omega), hM]⟩, by rw [ht]; exact hP9, hD9⟩, hS.F ht⟩) hS.2.2 dX2_prepare_106
          | succ k2 ih2 =>
            intro j f2 hj h2 H locs d0 hd0 hP hD hS ls hl
            refine lv_iload hx hb dX2_prepare_73 (lv_at hl 4 rfl) ?_
            refine lv_aload_n hx hb dX2_prepare_75 rfl (lv_at hl 0 rfl) ?_
            refine va_get (D := G) (ci := 2) (v := .int (nI n)) (C := RX2) (T := TX2) (N := 4) hx hb (dr_words hts d0) in_X2_prepare_X2 hown hK hP 0 rfl rfl 0 (by decide) (dr_words hts d0 (.fieldLink RX2 7 "EchoBench$Square" "size" "I") (by decide +kernel)) (fun _ h9 => h9) rfl dX2_prepare_76 ?_
            refine lv_icmp_ge (tgt := 105) hx hb dX2_prepare_79 (by decide) (fun h => absurd h (nI_ge (by omega) (by omega))) (fun _ => ?_)
            refine lv_aload_n hx hb dX2_prepare_82 rfl (lv_at hl 0 rfl) ?_
            refine va_get (D := G) (ci := 2) (v := .ref ah) (C := RX2) (T := TX2) (N := 4) hx hb (dr_words hts d0) in_X2_prepare_X2 hown hK hP 0 rfl rfl 3 (by decide) (dr_words hts d0 (.fieldLink RX2 22 "EchoBench$Square" "shares" "[D") (by decide +kernel)) (fun _ h9 => h9) rfl dX2_prepare_83 ?_
            refine lv_iload hx hb dX2_prepare_86 (lv_at hl 4 rfl) ?_
            refine lv_aload_n hx hb dX2_prepare_88 rfl (lv_at hl 0 rfl) ?_
            refine va_get (D := G) (ci := 2) (v := .ref ag) (C := RX2) (T := TX2) (N := 4) hx hb (dr_words hts d0) in_X2_prepare_X2 hown hK hP 0 rfl rfl 2 (by decide) (dr_words hts d0 (.fieldLink RX2 18 "EchoBench$Square" "g" "[D") (by decide +kernel)) (fun _ h9 => h9) rfl dX2_prepare_89 ?_
            refine lv_iload hx hb dX2_prepare_92 (lv_at hl 4 rfl) ?_
            refine va_daldJ (s := s.setDrawn d0) hx hb hK hP 2 1 rfl rfl (j := j) rfl (by omega) (by omega) dX2_prepare_94 ?_
            refine lv_dload hx hb dX2_prepare_95 (lv_at hl 3 rfl) ?_
            refine lv_ddiv_any hd0 lw_bits hx hb dX2_prepare_97 (fun r4 dr4 ar4 hr4 => ?_)
            have er4 := dV_div ar4
            refine va_dastJ (s := s.setDrawn dr4) hx hb hK hP hD hS 3 1 rfl rfl (j := j) rfl (by omega) (by omega) dX2_prepare_98 (fun H locs hP hD hS => ?_)
            have hP : va_P G vwCl ([(os, .inr (2, [.int (nI n), .ref an, .ref ag, .ref ah])), (an, aA q n (fun j => if j < n then some (ar j) else none)), (ag, aD q n f), (ah, aD q n (vf_upd f2 j r4)), (ax, aD q 8 (fun k => FP.i2d (xi k)))] ++ rowsW q n n ar P) H := hP
            have hD : va_D A ([(os, .inr (2, [.int (nI n), .ref an, .ref ag, .ref ah])), (an, aA q n (fun j => if j < n then some (ar j) else none)), (ag, aD q n f), (ah, aD q n (vf_upd f2 j r4)), (ax, aD q 8 (fun k => FP.i2d (xi k)))] ++ rowsW q n n ar P) := hD
            refine lv_iinc (v := nI (j + 1)) (lv' := [(6, .int (nI (j + 1))), (0, .ref os), (1, .ref ax), (2, .double st), (4, .double a)]) hx hb dX2_prepare_99 hl (k := 4) rfl (nI_succ _).symm (by decide) rfl (fun ls hl => ?_)
            refine lv_goto (tgt := 73) hx hb dX2_prepare_102 (by decide) ?_
            exact ih2 (j + 1) (vf_upd f2 j r4) (by omega) (vf_ups (g := fun i' => gDiv (dV (f i')) (dV a)) h2 er4) _ _ _ hr4 (hP.part (cx := [(os, .inr (2, [.int (nI n), .ref an, .ref ag, .ref ah])), (an, aA q n (fun j => if j < n then some (ar j) else none)), (ag, aD q n f), (ah, aD q n (vf_upd f2 j r4)), (ax, aD q 8 (fun k => FP.i2d (xi k)))]) [0, 1, 2, 3, 4] rfl) (hD.part (cx := [(os, .inr (2, [.int (nI n), .ref an, .ref ag, .ref ah])), (an, aA q n (fun j => if j < n then some (ar j) else none)), (ag, aD q n f), (ah, aD q n (vf_upd f2 j r4)), (ax, aD q 8 (fun k => FP.i2d (xi k)))]) [0, 1, 2, 3, 4] (by decide) rfl) hS ls (lv_sub hl [1, 2, 3, 4, 0] rfl)
        exact LOOP3 n 0 fh (by omega) (fun i1 hi1 => absurd hi1 (by omega)) _ _ _ hd0 (hP.part (cx := [(os, .inr (2, [.int (nI n), .ref an, .ref ag, .ref ah])), (an, aA q n (fun j => if j < n then some (ar j) else none)), (ag, aD q n f), (ah, aD q n fh), (ax, aD q 8 (fun k => FP.i2d (xi k)))]) [0, 1, 2, 3, 4] rfl) (hD.part (cx := [(os, .inr (2, [.int (nI n), .ref an, .ref ag, .ref ah])), (an, aA q n (fun j => if j < n then some (ar j) else none)), (ag, aD q n f), (ah, aD q n fh), (ax, aD q 8 (fun k => FP.i2d (xi k)))]) [0, 1, 2, 3, 4] (by decide) rfl) hS ls (lv_sub hl [1, 2, 3, 4, 0] rfl)
      · skip
        rw [cg_ge, dcmp_fO, hM, Classical.not_not] at c1
        refine lv_iconst (v := 0) hx hb dX2_prepare_68 (by decide) ?_
        have hP9 := hP
        have hD9 := hD
        refine W.endD hd0 ?_
        exact W.zret (v := 0) hx hb hr (by decide) (fun t ht hW => ⟨⟨0, (f, fh), rfl, ⟨(if_pos c1).symm, fun i1 hi1 => h1 i1 (by omega), fun hc => absurd c1 hc⟩, by rw [ht]; exact hP9, hD9⟩, hS.F ht⟩) hS.2.2 dX2_prepare_69
    | succ k ih =>
      intro i a f hi ha h1 H locs d0 hd0 hP hD hS ls hl
      refine lv_iload hx hb dX2_prepare_6 (lv_at hl 4 rfl) ?_
      refine lv_aload_n hx hb dX2_prepare_8 rfl (lv_at hl 0 rfl) ?_
      refine va_get (D := G) (ci := 2) (v := .int (nI n)) (C := RX2) (T := TX2) (N := 4) hx hb (dr_words hts d0) in_X2_prepare_X2 hown hK hP 0 rfl rfl 0 (by decide) (dr_words hts d0 (.fieldLink RX2 7 "EchoBench$Square" "size" "I") (by decide +kernel)) (fun _ h9 => h9) rfl dX2_prepare_9 ?_
      refine lv_icmp_ge (tgt := 59) hx hb dX2_prepare_12 (by decide) (fun h => absurd h (nI_ge (by omega) (by omega))) (fun _ => ?_)
      refine lv_iload hx hb dX2_prepare_15 (lv_at hl 4 rfl) ?_
      refine lv_aload_n hx hb dX2_prepare_17 rfl (lv_at hl 1 rfl) ?_
      refine va_alen (s := s.setDrawn d0) (D := G) hx hb hK hP 4 1 rfl rfl (v := 8) rfl dX2_prepare_18 ?_
      refine lv_icmp_ge (tgt := 59) hx hb dX2_prepare_19 (by decide) (fun h => absurd h (nI_ge (b := 8) (by omega) (by omega))) (fun _ => ?_)
      refine lv_aload_n hx hb dX2_prepare_22 rfl (lv_at hl 0 rfl) ?_
      refine va_get (D := G) (ci := 2) (v := .ref ag) (C := RX2) (T := TX2) (N := 4) hx hb (dr_words hts d0) in_X2_prepare_X2 hown hK hP 0 rfl rfl 2 (by decide) (dr_words hts d0 (.fieldLink RX2 18 "EchoBench$Square" "g" "[D") (by decide +kernel)) (fun _ h9 => h9) rfl dX2_prepare_23 ?_
      refine lv_iload hx hb dX2_prepare_26 (lv_at hl 4 rfl) ?_
      refine lv_aload_n hx hb dX2_prepare_28 rfl (lv_at hl 0 rfl) ?_
      refine lv_iload hx hb dX2_prepare_29 (lv_at hl 4 rfl) ?_
      refine lv_aload_n hx hb dX2_prepare_31 rfl (lv_at hl 1 rfl) ?_
      have hPc := hP.part (cx := [(os, .inr (2, [.int (nI n), .ref an, .ref ag, .ref ah])), (an, aA q n (fun j => if j < n then some (ar j) else none)), (ax, aD q 8 (fun k => FP.i2d (xi k)))]) [0, 1, 4] rfl
      have hDc := hD.part (cx := [(os, .inr (2, [.int (nI n), .ref an, .ref ag, .ref ah])), (an, aA q n (fun j => if j < n then some (ar j) else none)), (ax, aD q 8 (fun k => FP.i2d (xi k)))]) [0, 1, 4] (by decide) rfl
      have hFc := va_freeP (cx := [(os, .inr (2, [.int (nI n), .ref an, .ref ag, .ref ah])), (an, aA q n (fun j => if j < n then some (ar j) else none)), (ax, aD q 8 (fun k => FP.i2d (xi k)))]) hD hS hA [0, 1, 4] rfl
      refine va_calldD hd0 (va_runV_D (As := [.int (nI i), .ref ax]) (rest := [.int (nI i), .ref ag]) ⟨hx, hb, hml, hown, (dr_words hts d0)⟩ (m_X2_rowTimes l G q H.size os an ag ah n ar P ax i xi hn (by omega)) (cwV 2 (dr_words hts d0) gX2_prepare_X2_rowTimes rfl rfl rfl (by decide +kernel) ⟨Nat.le_of_ble_eq_true rfl, Nat.le_of_ble_eq_true rfl⟩) ⟨preW_blind, (va_recv hK hPc (ci := 2) (q0 := 0) rfl rfl), preW_start (s := s.setDrawn d0) hPc hK hDc (hNF.drawn d0)⟩ rfl rfl hl.1 rfl (lv_room (Nat.le_of_ble_eq_true rfl)) dX2_prepare_32 ⟨(Nat.zero_le _), (Nat.zero_le _)⟩) hS (fun q _ h => hFc q h) hFc (fun rt u9 t9 H1 locs ht9 hv9 hw hB9 hz9 hk9 hS du7 hu7 => ?_)
      obtain ⟨⟩ := u9
      obtain ⟨hP1, hD1⟩ := hB9
      rw [ht9] at hP1
      obtain ⟨hP, hD⟩ := va_joinP (wr := [(ag, aD q n f), (ah, aD q n fh)]) (rx := [(os, .inr (2, [.int (nI n), .ref an, .ref ag, .ref ah])), (an, aA q n (fun j => if j < n then some (ar j) else none)), (ax, aD q 8 (fun k => FP.i2d (xi k)))]) (pl1 := rowsW q n n ar P) hP hD [0, 1, 4] [2, 3] rfl rfl (by decide) (by decide) hk9 hFc hP1 hD1
      generalize H1 = H at hP hS ⊢
      have hP : va_P G vwCl ([(ag, aD q n f), (ah, aD q n fh), (os, .inr (2, [.int (nI n), .ref an, .ref ag, .ref ah])), (an, aA q n (fun j => if j < n then some (ar j) else none)), (ax, aD q 8 (fun k => FP.i2d (xi k)))] ++ rowsW q n n ar P) H := hP
      have hD : va_D A ([(ag, aD q n f), (ah, aD q n fh), (os, .inr (2, [.int (nI n), .ref an, .ref ag, .ref ah])), (an, aA q n (fun j => if j < n then some (ar j) else none)), (ax, aD q 8 (fun k => FP.i2d (xi k)))] ++ rowsW q n n ar P) := hD
      have hrt := hw
      refine va_dastJ (s := s.setDrawn du7) hx hb hK hP hD hS 0 1 rfl rfl (j := i) rfl (by omega) (by omega) dX2_prepare_35 (fun H locs hP hD hS => ?_)
      have hP : va_P G vwCl ([(ag, aD q n (vf_upd f i rt)), (ah, aD q n fh), (os, .inr (2, [.int (nI n), .ref an, .ref ag, .ref ah])), (an, aA q n (fun j => if j < n then some (ar j) else none)), (ax, aD q 8 (fun k => FP.i2d (xi k)))] ++ rowsW q n n ar P) H := hP
      have hD : va_D A ([(ag, aD q n (vf_upd f i rt)), (ah, aD q n fh), (os, .inr (2, [.int (nI n), .ref an, .ref ag, .ref ah])), (an, aA q n (fun j => if j < n then some (ar j) else none)), (ax, aD q 8 (fun k => FP.i2d (xi k)))] ++ rowsW q n n ar P) := hD
      refine lv_dload hx hb dX2_prepare_36 (lv_at hl 3 rfl) ?_
      refine lv_aload_n hx hb dX2_prepare_38 rfl (lv_at hl 1 rfl) ?_
      refine lv_iload hx hb dX2_prepare_39 (lv_at hl 4 rfl) ?_
      refine va_daldJ (s := s.setDrawn du7) hx hb hK hP 4 1 rfl rfl (j := i) rfl (by omega) (by decide) dX2_prepare_41 ?_
      refine lv_aload_n hx hb dX2_prepare_42 rfl (lv_at hl 0 rfl) ?_
      refine va_get (D := G) (ci := 2) (v := .ref ag) (C := RX2) (T := TX2) (N := 4) hx hb (dr_words hts du7) in_X2_prepare_X2 hown hK hP 2 rfl rfl 2 (by decide) (dr_words hts du7 (.fieldLink RX2 18 "EchoBench$Square" "g" "[D") (by decide +kernel)) (fun _ h9 => h9) rfl dX2_prepare_43 ?_
      refine lv_iload hx hb dX2_prepare_46 (lv_at hl 4 rfl) ?_
      refine va_daldJ (s := s.setDrawn du7) hx hb hK hP 0 1 rfl rfl (j := i) rfl (by omega) (by omega) dX2_prepare_48 ?_
      refine lv_dmul_any hu7 lw_bits hx hb dX2_prepare_49 (fun r8 dr8 ar8 hr8 => ?_)
      have er8 := dV_mul ar8
      refine lv_dadd_any hr8 lw_bits hx hb dX2_prepare_50 (fun r9 dr9 ar9 hr9 => ?_)
      have er9 := dV_add ar9
      refine lv_dstore (lv' := [(4, .double r9), (0, .ref os), (1, .ref ax), (2, .double st), (6, .int (nI i))]) hx hb dX2_prepare_51 hl (by decide) rfl (fun ls hl => ?_)
      refine lv_iinc (v := nI (i + 1)) (lv' := [(6, .int (nI (i + 1))), (4, .double r9), (0, .ref os), (1, .ref ax), (2, .double st)]) hx hb dX2_prepare_53 hl (k := 4) rfl (nI_succ _).symm (by decide) rfl (fun ls hl => ?_)
      refine lv_goto (tgt := 6) hx hb dX2_prepare_56 (by decide) ?_
      exact ih (i + 1) r9 (vf_upd f i rt) (by omega) (by rw [er9, er8, ha, vf_self, hrt]; rfl) (vf_ups (g := fun i' => gOut n (fun j => dV (P i' j)) xi) h1 hrt) _ _ _ hr9 (hP.part (cx := [(os, .inr (2, [.int (nI n), .ref an, .ref ag, .ref ah])), (an, aA q n (fun j => if j < n then some (ar j) else none)), (ag, aD q n (vf_upd f i rt)), (ah, aD q n fh), (ax, aD q 8 (fun k => FP.i2d (xi k)))]) [2, 3, 0, 1, 4] rfl) (hD.part (cx := [(os, .inr (2, [.int (nI n), .ref an, .ref ag, .ref ah])), (an, aA q n (fun j => if j < n then some (ar j) else none)), (ag, aD q n (vf_upd f i rt)), (ah, aD q n fh), (ax, aD q 8 (fun k => FP.i2d (xi k)))]) [2, 3, 0, 1, 4] (by decide) rfl) hS ls (lv_sub hl [2, 3, 4, 1, 0] rfl)
  refine lv_dload_n hx hb dX2_prepare_0 rfl (lv_at hl 2 rfl) ?_
  refine lv_dstore (lv' := [(4, .double st), (0, .ref os), (1, .ref ax), (2, .double st)]) hx hb dX2_prepare_1 hl (by decide) rfl (fun ls hl => ?_)
  refine lv_iconst (v := 0) hx hb dX2_prepare_3 (by decide) ?_
  refine lv_istore (lv' := [(6, .int 0), (4, .double st), (0, .ref os), (1, .ref ax), (2, .double st)]) hx hb dX2_prepare_4 hl (by decide) rfl (fun ls hl => ?_)
  exact LOOP n 0 st fg (by omega) rfl (fun i1 hi1 => absurd hi1 (by omega)) _ _ _ hd0 (hP.part (cx := [(os, .inr (2, [.int (nI n), .ref an, .ref ag, .ref ah])), (an, aA q n (fun j => if j < n then some (ar j) else none)), (ag, aD q n fg), (ah, aD q n fh), (ax, aD q 8 (fun k => FP.i2d (xi k)))]) [0, 1, 2, 3, 4] rfl) (hD.part (cx := [(os, .inr (2, [.int (nI n), .ref an, .ref ag, .ref ah])), (an, aA q n (fun j => if j < n then some (ar j) else none)), (ag, aD q n fg), (ah, aD q n fh), (ax, aD q 8 (fun k => FP.i2d (xi k)))]) [0, 1, 2, 3, 4] (by decide) rfl) hS ls (lv_sub hl [2, 3, 4, 1, 0] rfl)
