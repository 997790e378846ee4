/-! ===== samples, as values ===== -/
/-- the bench but for its path: (x, latest x0, latest x1), latest microphones, microphone, samples, filters -/
abbrev BS : Type := ((Nat → Int32) × (Nat → Int32) × (Nat → Int32)) × (Nat → Dt) × Dt × Nat × (Nat → FV)
def bsS (pa : Nat → Int32) (v ta : Int32) (b : BS) : BS :=
  ((shX b.1.1 v, vf_upd b.1.2.1 (b.2.2.2.1 % 16) v, vf_upd b.1.2.2 (b.2.2.2.1 % 16) (b.1.1 0)), vf_upd b.2.1 (b.2.2.2.1 % 16) (sMic ta pa (shX b.1.1 v)), sMic ta pa (shX b.1.1 v), b.2.2.2.1 + 1, fun g => hearM (shX b.1.1 v) (sMic ta pa (shX b.1.1 v)) (b.2.2.2.2 g))
def nxN (a : Nat) : Nat := (7 * a + 1001) % 2001
def scrA (a : Nat) : Nat → Nat
  | 0 => a
  | k + 1 => nxN (scrA a k)
def bsN (pa : Nat → Int32) (a : Nat) : Nat → BS → BS
  | 0, b => b
  | k + 1, b => bsS pa (nI (scrA a (k + 1)) - 1000) 0 (bsN pa a k b)
/-- the reference's picture -/
def picM (nf T : Nat) (xi z0 z1 : Nat → Int32) (fm : Nat → UInt64) (mi : UInt64) (I : Nat → Nat → Int32) (D : Nat → Nat → UInt64) (b : BS) : Prop :=
  b.1 = (xi, z0, z1) ∧ b.2.1 = (fun i => dV (fm i)) ∧ b.2.2.1 = dV mi ∧ b.2.2.2.1 = T ∧ ∀ g, g < nf → mF I D g = b.2.2.2.2 g
theorem vf_dV {f : Nat → UInt64} {k : Nat} {x : UInt64} : (fun i => dV (vf_upd f k x i)) = vf_upd (fun i => dV (f i)) k (dV x) := by
  funext j
  unfold vf_upd
  by_cases h : j = k
  · rw [if_pos h, if_pos h]
  · rw [if_neg h, if_neg h]
theorem picM_step {nf T : Nat} {pa xi z0 z1 : Nat → Int32} {fm : Nat → UInt64} {mi mj : UInt64} {I J : Nat → Nat → Int32} {D E : Nat → Nat → UInt64} {b : BS} {v ta : Int32} (h : picM nf T xi z0 z1 fm mi I D b)
    (h1 : dV mj = sMic ta pa (shX xi v)) (h2 : ∀ g, g < nf → mF J E g = hearM (shX xi v) (dV mj) (mF I D g)) :
    picM nf (T + 1) (shX xi v) (vf_upd z0 (T % 16) v) (vf_upd z1 (T % 16) (xi 0)) (vf_upd fm (T % 16) mj) mj J E (bsS pa v ta b) := by
  obtain ⟨a1, a2, a3, a4, a5⟩ := h
  unfold bsS
  refine ⟨?_, ?_, ?_, ?_, fun g hg => ?_⟩
  · show (shX b.1.1 v, vf_upd b.1.2.1 (b.2.2.2.1 % 16) v, vf_upd b.1.2.2 (b.2.2.2.1 % 16) (b.1.1 0)) = _
    rw [a1, a4]
  · show vf_upd b.2.1 (b.2.2.2.1 % 16) (sMic ta pa (shX b.1.1 v)) = _
    rw [a1, a2, a4, vf_dV, h1]
  · show sMic ta pa (shX b.1.1 v) = _
    rw [a1, h1]
  · show b.2.2.2.1 + 1 = _
    rw [a4]
  · show _ = hearM (shX b.1.1 v) (sMic ta pa (shX b.1.1 v)) (b.2.2.2.2 g)
    rw [h2 g hg, a1, ← a5 g hg, h1]
theorem vS_step {nf T : Nat} {xi : Nat → Int32} {mi : Dt} {I J : Nat → Nat → Int32} {D E : Nat → Nat → UInt64} (h : ∀ g, g < nf → vS T (mF I D g)) (h2 : ∀ g, g < nf → mF J E g = hearM xi mi (mF I D g)) : ∀ g, g < nf → vS (T + 1) (mF J E g) := fun g hg => by
  rw [h2 g hg]
  exact hearM_vS (h g hg)
theorem nI_ne {a b : Nat} (ha : a < 2147483648) (hb : b < 2147483648) (h : ¬ a = b) : ¬ nI a = nI b := fun q => h (nI_inj ha hb q)
/-- the best of the first k, by how far off they are -/
def bstN (f : Nat → Dt) : Nat → Option Nat
  | 0 => none
  | k + 1 => match bstN f k with
    | none => some k
    | some i => if fO (f k) (f i) = some .lt then some k else some i
def bstI (o : Option Nat) : Int32 := match o with
  | none => -1
  | some i => nI i
theorem bstN_lt {f : Nat → Dt} {k i : Nat} (h : bstN f k = some i) : i < k := by
  induction k generalizing i with
  | zero => exact absurd h (by simp [bstN])
  | succ k ih =>
    unfold bstN at h
    split at h
    · injection h with h; omega
    · rename_i j hj
      have := ih hj
      split at h
      · injection h with h; omega
      · injection h with h; omega
theorem bstN_congr {f g : Nat → Dt} {k : Nat} (h : ∀ i, i < k → f i = g i) : bstN f k = bstN g k := by
  induction k with
  | zero => rfl
  | succ k ih =>
    unfold bstN
    rw [ih (fun i hi => h i (by omega))]
    split
    · rfl
    · rename_i j hj
      rw [h k (by omega), h j (by have := bstN_lt hj; omega)]

theorem in_X4_power_X4 : ∀ w ∈ wsX40, w ∈ wsX4_power := by decide +kernel
set_option maxHeartbeats 4000000 in
set_option maxRecDepth 100000 in
/-- power -/
theorem m_X4_power (l : Launch) (G : va_G) (q : Nat → ClassId) (sz : Nat) (om : Nat) (am : Nat → Nat) (th sa : Int32) (mi : UInt64) (nf : Nat) (fx tt : Nat) (Hi : Nat → Int32) (Es : Nat → UInt64) (hfx : fx < 6) (hH : Hi fx = nI tt) (htt : tt ≤ 2000) : MetD lw_cs l yX4_power wsX4_power ({ frames := 0, cells := 0, slots := 0, locals := 0 } : Jvm.Room) (PreW G q [.ref om, .int (nI fx)] [(om, .inr (4, [.int th, .int sa, .ref (am 0), .ref (am 1), .double mi, .ref (am 2), .ref (am 3), .ref (am 4), .int (nI nf), .ref (am 5), .ref (am 6), .ref (am 7), .ref (am 8), .ref (am 9), .ref (am 10), .ref (am 11), .ref (am 12), .ref (am 13), .ref (am 14), .ref (am 15), .ref (am 16), .ref (am 17), .ref (am 18), .ref (am 19)])), ((am 11), aI q 6 Hi), ((am 17), aD q 96 Es)] sz) (va_Qd (fun (r : UInt64) (_ : Unit) => dV r = sPow tt (fun k => dV (Es (16 * fx + k)))) (fun (_ : Unit) t => EndA G (va_A [(om, .inr (4, [.int th, .int sa, .ref (am 0), .ref (am 1), .double mi, .ref (am 2), .ref (am 3), .ref (am 4), .int (nI nf), .ref (am 5), .ref (am 6), .ref (am 7), .ref (am 8), .ref (am 9), .ref (am 10), .ref (am 11), .ref (am 12), .ref (am 13), .ref (am 14), .ref (am 15), .ref (am 16), .ref (am 17), .ref (am 18), .ref (am 19)])), ((am 11), aI q 6 Hi), ((am 17), aD q 96 Es)] sz) [(om, .inr (4, [.int th, .int sa, .ref (am 0), .ref (am 1), .double mi, .ref (am 2), .ref (am 3), .ref (am 4), .int (nI nf), .ref (am 5), .ref (am 6), .ref (am 7), .ref (am 8), .ref (am 9), .ref (am 10), .ref (am 11), .ref (am 12), .ref (am 13), .ref (am 14), .ref (am 15), .ref (am 16), .ref (am 17), .ref (am 18), .ref (am 19)])), ((am 11), aI q 6 Hi), ((am 17), aD q 96 Es)] t) (va_A [(om, .inr (4, [.int th, .int sa, .ref (am 0), .ref (am 1), .double mi, .ref (am 2), .ref (am 3), .ref (am 4), .int (nI nf), .ref (am 5), .ref (am 6), .ref (am 7), .ref (am 8), .ref (am 9), .ref (am 10), .ref (am 11), .ref (am 12), .ref (am 13), .ref (am 14), .ref (am 15), .ref (am 16), .ref (am 17), .ref (am 18), .ref (am 19)])), ((am 11), aI q 6 Hi), ((am 17), aD q 96 Es)] sz)) 0 0 (va_A [(om, .inr (4, [.int th, .int sa, .ref (am 0), .ref (am 1), .double mi, .ref (am 2), .ref (am 3), .ref (am 4), .int (nI nf), .ref (am 5), .ref (am 6), .ref (am 7), .ref (am 8), .ref (am 9), .ref (am 10), .ref (am 11), .ref (am 12), .ref (am 13), .ref (am 14), .ref (am 15), .ref (am 16), .ref (am 17), .ref (am 18), .ref (am 19)])), ((am 11), aI q 6 Hi), ((am 17), aD q 96 Es)] sz) := by
  refine MetD.ofW (cc := cX4_power) (maxL := 8) (ret := (some .double)) (by decide +kernel) rfl ?_
  intro p e s m args below meth c s₁ B hml hv hd0
  obtain ⟨rfl, hsz, hP, hK, hD0, hNF⟩ := hv
  have hx := B.exec
  have hb := B.bytes
  have hr := B.returns
  have hts := atoms_spec (ws := wsX4_power) B.pre
  have hown : s.vm.findClass RX4 = some m.cls := findClass_of_methodNamed B.named
  have hlocks := B.notSynchronized
  subst hsz
  have hD := hD0.self (sz := s.heap.size)
  generalize hAe : va_A [(om, .inr (4, [.int th, .int sa, .ref (am 0), .ref (am 1), .double mi, .ref (am 2), .ref (am 3), .ref (am 4), .int (nI nf), .ref (am 5), .ref (am 6), .ref (am 7), .ref (am 8), .ref (am 9), .ref (am 10), .ref (am 11), .ref (am 12), .ref (am 13), .ref (am 14), .ref (am 15), .ref (am 16), .ref (am 17), .ref (am 18), .ref (am 19)])), ((am 11), aI q 6 Hi), ((am 17), aD q 96 Es)] s.heap.size = A at hD ⊢
  have hA : ∀ q : Nat, s.heap.size ≤ q → A q := fun q h => by rw [← hAe]; exact Or.inr h
  have hS : va_S A s.heap s.heap [] := va_S.rf
  have hP : va_P G vwCl [(om, .inr (4, [.int th, .int sa, .ref (am 0), .ref (am 1), .double mi, .ref (am 2), .ref (am 3), .ref (am 4), .int (nI nf), .ref (am 5), .ref (am 6), .ref (am 7), .ref (am 8), .ref (am 9), .ref (am 10), .ref (am 11), .ref (am 12), .ref (am 13), .ref (am 14), .ref (am 15), .ref (am 16), .ref (am 17), .ref (am 18), .ref (am 19)])), ((am 11), aI q 6 Hi), ((am 17), aD q 96 Es)] s.heap := hP
  have hl := lv_entry ([.ref om, .int (nI fx)]) (n := 8) (Nat.le_of_ble_eq_true rfl)
  rw [lg_entry_eq]
  generalize (lg_sl ([.ref om, .int (nI fx)]) ++ List.replicate (8 - (lg_sl ([.ref om, .int (nI fx)])).length) Slot.unset).toArray = ls at hl ⊢
  have hl : lv_has ls 8 [(0, .ref om), (1, .int (nI fx))] := hl
  have LOOP : ∀ (k : Nat) (j : Nat) (a : UInt64), tt - 16 + j + k = tt → dV a = smN (dV 0) (fun k => fMul (dV (Es (16 * fx + (tt - 16 + k) % 16))) (dV (Es (16 * fx + (tt - 16 + k) % 16)))) j → ∀ (H : Heap) (locs : List Loc) (d0 : Drawn), s.drawn.sameBut d0 lw_cs → va_P G vwCl [(om, .inr (4, [.int th, .int sa, .ref (am 0), .ref (am 1), .double mi, .ref (am 2), .ref (am 3), .ref (am 4), .int (nI nf), .ref (am 5), .ref (am 6), .ref (am 7), .ref (am 8), .ref (am 9), .ref (am 10), .ref (am 11), .ref (am 12), .ref (am 13), .ref (am 14), .ref (am 15), .ref (am 16), .ref (am 17), .ref (am 18), .ref (am 19)])), ((am 11), aI q 6 Hi), ((am 17), aD q 96 Es)] H → va_D A [(om, .inr (4, [.int th, .int sa, .ref (am 0), .ref (am 1), .double mi, .ref (am 2), .ref (am 3), .ref (am 4), .int (nI nf), .ref (am 5), .ref (am 6), .ref (am 7), .ref (am 8), .ref (am 9), .ref (am 10), .ref (am 11), .ref (am 12), .ref (am 13), .ref (am 14), .ref (am 15), .ref (am 16), .ref (am 17), .ref (am 18), .ref (am 19)])), ((am 11), aI q 6 Hi), ((am 17), aD q 96 Es)] → va_S A s.heap H locs → ∀ (ls : Array Slot), lv_has ls 8 [(0, .ref om), (1, .int (nI fx)), (2, .int (nI (tt - (tt - 16)))), (3, .double a), (5, .int (nI (tt - 16 + j)))] → W p l e (headSpec wsX4_power ({ frames := 0, cells := 0, slots := 0, locals := 0 } : Jvm.Room)).room (s.setDrawn d0) m #[.ref om, .int (nI fx)] below meth c H locs 0 0 (MQD lw_cs below (va_Qd (fun (r : UInt64) (_ : Unit) => dV r = sPow tt (fun k => dV (Es (16 * fx + k)))) (fun (_ : Unit) t => EndA G A [(om, .inr (4, [.int th, .int sa, .ref (am 0), .ref (am 1), .double mi, .ref (am 2), .ref (am 3), .ref (am 4), .int (nI nf), .ref (am 5), .ref (am 6), .ref (am 7), .ref (am 8), .ref (am 9), .ref (am 10), .ref (am 11), .ref (am 12), .ref (am 13), .ref (am 14), .ref (am 15), .ref (am 16), .ref (am 17), .ref (am 18), .ref (am 19)])), ((am 11), aI q 6 Hi), ((am 17), aD q 96 Es)] t) A) #[.ref om, .int (nI fx)] s 0 0 A) (F0 m 35 ls []) := by
    intro k
    induction k with
    | zero =>
      intro j a hj ha H locs d0 hd0 hP hD hS ls hl
      refine lv_iload hx hb dX4_power_35 (lv_at hl 4 rfl) ?_
      refine lv_aload_n hx hb dX4_power_37 rfl (lv_at hl 0 rfl) ?_
      refine va_get (D := G) (ci := 4) (v := .ref (am 11)) (C := RX4) (T := TX4) (N := 24) hx hb (dr_words hts d0) in_X4_power_X4 hown hK hP 0 rfl rfl 15 (by decide) (dr_words hts d0 (.fieldLink RX4 44 "EchoBenchModel" "had" "[I") (by decide +kernel)) (fun _ h9 => h9) rfl dX4_power_38 ?_
      refine lv_iload_n hx hb dX4_power_41 rfl (lv_at hl 1 rfl) ?_
      refine va_ialdJ (s := s.setDrawn d0) hx hb hK hP 1 0 rfl rfl (j := fx) rfl (by omega) (by decide) dX4_power_42 ?_
      rw [hH]
      refine lv_icmp_ge (tgt := 77) hx hb dX4_power_43 (by decide) (fun _ => ?_) (fun h => absurd (nI_le (by omega) (by omega)) h)
      refine lv_iload_n hx hb dX4_power_77 rfl (lv_at hl 2 rfl) ?_
      have ej : j = tt - (tt - 16) := by omega
      subst ej
      by_cases t0 : tt = 0
      · skip
        refine lv_if_ne (tgt := 85) hx hb dX4_power_78 (by decide) (fun h => absurd (show nI (tt - (tt - 16)) = 0 by rw [t0]; rfl) h) (fun _ => ?_)
        refine lv_dc0 hx hb dX4_power_81 ?_
        refine lv_goto (tgt := 89) hx hb dX4_power_82 (by decide) ?_
        have hP9 := hP
        have hD9 := hD
        refine W.endD hd0 ?_
        exact W.dret (v := 0) hx hb hr (fun t ht hW => ⟨⟨0, (), rfl, by dsimp only; unfold sPow; rw [if_pos t0], by rw [ht]; exact hP9, hD9⟩, hS.F ht⟩) hS.2.2 dX4_power_89
      refine lv_if_ne (tgt := 85) hx hb dX4_power_78 (by decide) (fun _ => ?_) (fun h => absurd h (fun h => absurd (nI_inj (b := 0) (by omega) (by decide) h) (by omega)))
      refine lv_dload_n hx hb dX4_power_85 rfl (lv_at hl 3 rfl) ?_
      refine lv_iload_n hx hb dX4_power_86 rfl (lv_at hl 2 rfl) ?_
      refine lv_i2d hx hb dX4_power_87 ?_
      refine lv_ddiv_any hd0 lw_bits hx hb dX4_power_88 (fun r4 dr4 ar4 hr4 => ?_)
      have er4 := dV_div ar4
      have hP9 := hP
      have hD9 := hD
      refine W.endD hr4 ?_
      exact W.dret (v := r4) hx hb hr (fun t ht hW => ⟨⟨r4, (), rfl, by dsimp only; unfold sPow; rw [if_neg t0, er4, ha, dV_i2d], by rw [ht]; exact hP9, hD9⟩, hS.F ht⟩) hS.2.2 dX4_power_89
    | succ k ih =>
      intro j a hj ha H locs d0 hd0 hP hD hS ls hl
      refine lv_iload hx hb dX4_power_35 (lv_at hl 4 rfl) ?_
      refine lv_aload_n hx hb dX4_power_37 rfl (lv_at hl 0 rfl) ?_
      refine va_get (D := G) (ci := 4) (v := .ref (am 11)) (C := RX4) (T := TX4) (N := 24) hx hb (dr_words hts d0) in_X4_power_X4 hown hK hP 0 rfl rfl 15 (by decide) (dr_words hts d0 (.fieldLink RX4 44 "EchoBenchModel" "had" "[I") (by decide +kernel)) (fun _ h9 => h9) rfl dX4_power_38 ?_
      refine lv_iload_n hx hb dX4_power_41 rfl (lv_at hl 1 rfl) ?_
      refine va_ialdJ (s := s.setDrawn d0) hx hb hK hP 1 0 rfl rfl (j := fx) rfl (by omega) (by decide) dX4_power_42 ?_
      rw [hH]
      refine lv_icmp_ge (tgt := 77) hx hb dX4_power_43 (by decide) (fun h => absurd h (nI_ge (by omega) (by omega))) (fun _ => ?_)
      refine lv_aload_n hx hb dX4_power_46 rfl (lv_at hl 0 rfl) ?_
      refine va_get (D := G) (ci := 4) (v := .ref (am 17)) (C := RX4) (T := TX4) (N := 24) hx hb (dr_words hts d0) in_X4_power_X4 hown hK hP 0 rfl rfl 21 (by decide) (dr_words hts d0 (.fieldLink RX4 62 "EchoBenchModel" "errors" "[D") (by decide +kernel)) (fun _ h9 => h9) rfl dX4_power_47 ?_
      refine lv_bipush (v := 16) hx hb dX4_power_50 (by decide) ?_
      refine lv_iload_n hx hb dX4_power_52 rfl (lv_at hl 1 rfl) ?_
      refine lv_imul hx hb dX4_power_53 ?_
      refine lv_topi (fun x6 ex6 => ?_)
      obtain rfl : x6 = (nI (16 * fx)) := ex6.trans (nI_mul 16 fx)
      refine lv_iload hx hb dX4_power_54 (lv_at hl 4 rfl) ?_
      refine lv_bipush (v := 16) hx hb dX4_power_56 (by decide) ?_
      refine lv_irem hx hb dX4_power_58 (by decide) ?_
      refine lv_topi (fun x7 ex7 => ?_)
      obtain rfl : x7 = (nI ((tt - 16 + j) % 16)) := ex7.trans (nI_rem16 (by omega))
      refine lv_iadd hx hb dX4_power_59 ?_
      refine lv_topi (fun x8 ex8 => ?_)
      obtain rfl : x8 = (nI (16 * fx + ((tt - 16 + j) % 16))) := ex8.trans (nI_add (16 * fx) ((tt - 16 + j) % 16))
      refine va_daldJ (s := s.setDrawn d0) hx hb hK hP 2 1 rfl rfl (j := (16 * fx + (tt - 16 + j) % 16)) rfl (by have := Nat.mod_lt (tt - 16 + j) (show 16 > 0 by decide); omega) (by decide) dX4_power_60 ?_
      refine lv_dstore (lv' := [(6, .double (Es (16 * fx + (tt - 16 + j) % 16))), (0, .ref om), (1, .int (nI fx)), (2, .int (nI (tt - (tt - 16)))), (3, .double a), (5, .int (nI (tt - 16 + j)))]) hx hb dX4_power_61 hl (by decide) rfl (fun ls hl => ?_)
      refine lv_dload_n hx hb dX4_power_63 rfl (lv_at hl 4 rfl) ?_
      refine lv_dload hx hb dX4_power_64 (lv_at hl 0 rfl) ?_
      refine lv_dload hx hb dX4_power_66 (lv_at hl 0 rfl) ?_
      refine lv_dmul_any hd0 lw_bits hx hb dX4_power_68 (fun r9 dr9 ar9 hr9 => ?_)
      have er9 := dV_mul ar9
      refine lv_dadd_any hr9 lw_bits hx hb dX4_power_69 (fun r10 dr10 ar10 hr10 => ?_)
      have er10 := dV_add ar10
      refine lv_dstore_n (lv' := [(3, .double r10), (6, .double (Es (16 * fx + (tt - 16 + j) % 16))), (0, .ref om), (1, .int (nI fx)), (2, .int (nI (tt - (tt - 16)))), (5, .int (nI (tt - 16 + j)))]) hx hb dX4_power_70 rfl hl (by decide) rfl (fun ls hl => ?_)
      refine lv_iinc (v := nI (tt - 16 + (j + 1))) (lv' := [(5, .int (nI (tt - 16 + (j + 1)))), (3, .double r10), (6, .double (Es (16 * fx + (tt - 16 + j) % 16))), (0, .ref om), (1, .int (nI fx)), (2, .int (nI (tt - (tt - 16))))]) hx hb dX4_power_71 hl (k := 5) rfl (nI_succ (tt - 16 + j)).symm (by decide) rfl (fun ls hl => ?_)
      refine lv_goto (tgt := 35) hx hb dX4_power_74 (by decide) ?_
      exact ih (j + 1) r10 (by omega) (by rw [er10, er9, ha]; rfl) _ _ _ hr10 (hP.sub [0, 1, 2] rfl) (hD.sub [0, 1, 2] (by decide) rfl) hS ls (lv_sub hl [3, 4, 5, 1, 0] rfl)
  refine lv_aload_n hx hb dX4_power_0 rfl (lv_at hl 0 rfl) ?_
  refine va_get (D := G) (ci := 4) (v := .ref (am 11)) (C := RX4) (T := TX4) (N := 24) hx hb (dr_words hts s.drawn) in_X4_power_X4 hown hK hP 0 rfl rfl 15 (by decide) (dr_words hts s.drawn (.fieldLink RX4 44 "EchoBenchModel" "had" "[I") (by decide +kernel)) (fun _ h9 => h9) rfl dX4_power_1 ?_
  refine lv_iload_n hx hb dX4_power_4 rfl (lv_at hl 1 rfl) ?_
  refine va_ialdJ (s := s.setDrawn s.drawn) hx hb hK hP 1 0 rfl rfl (j := fx) rfl (by omega) (by decide) dX4_power_5 ?_
  rw [hH]
  refine lv_bipush (v := 16) hx hb dX4_power_6 (by decide) ?_
  by_cases t1 : tt < 16
  · skip
    refine lv_icmp_ge (tgt := 20) hx hb dX4_power_8 (by decide) (fun h => absurd h (nI_ge (b := 16) t1 (by decide))) (fun _ => ?_)
    refine lv_aload_n hx hb dX4_power_11 rfl (lv_at hl 0 rfl) ?_
    refine va_get (D := G) (ci := 4) (v := .ref (am 11)) (C := RX4) (T := TX4) (N := 24) hx hb (dr_words hts s.drawn) in_X4_power_X4 hown hK hP 0 rfl rfl 15 (by decide) (dr_words hts s.drawn (.fieldLink RX4 44 "EchoBenchModel" "had" "[I") (by decide +kernel)) (fun _ h9 => h9) rfl dX4_power_12 ?_
    refine lv_iload_n hx hb dX4_power_15 rfl (lv_at hl 1 rfl) ?_
    refine va_ialdJ (s := s.setDrawn s.drawn) hx hb hK hP 1 0 rfl rfl (j := fx) rfl (by omega) (by decide) dX4_power_16 ?_
    rw [hH]
    have e9 : nI tt = (nI (tt - (tt - 16))) := by congr 1; omega
    refine lv_topi (fun x99 ex99 => ?_)
    obtain rfl : x99 = (nI (tt - (tt - 16))) := ex99.trans e9
    refine lv_goto (tgt := 22) hx hb dX4_power_17 (by decide) ?_
    refine lv_istore_n (lv' := [(2, .int (nI (tt - (tt - 16)))), (0, .ref om), (1, .int (nI fx))]) hx hb dX4_power_22 rfl hl (by decide) rfl (fun ls hl => ?_)
    refine lv_dc0 hx hb dX4_power_23 ?_
    refine lv_dstore_n (lv' := [(3, .double 0), (2, .int (nI (tt - (tt - 16)))), (0, .ref om), (1, .int (nI fx))]) hx hb dX4_power_24 rfl hl (by decide) rfl (fun ls hl => ?_)
    refine lv_aload_n hx hb dX4_power_25 rfl (lv_at hl 2 rfl) ?_
    refine va_get (D := G) (ci := 4) (v := .ref (am 11)) (C := RX4) (T := TX4) (N := 24) hx hb (dr_words hts s.drawn) in_X4_power_X4 hown hK hP 0 rfl rfl 15 (by decide) (dr_words hts s.drawn (.fieldLink RX4 44 "EchoBenchModel" "had" "[I") (by decide +kernel)) (fun _ h9 => h9) rfl dX4_power_26 ?_
    refine lv_iload_n hx hb dX4_power_29 rfl (lv_at hl 3 rfl) ?_
    refine va_ialdJ (s := s.setDrawn s.drawn) hx hb hK hP 1 0 rfl rfl (j := fx) rfl (by omega) (by decide) dX4_power_30 ?_
    rw [hH]
    refine lv_iload_n hx hb dX4_power_31 rfl (lv_at hl 1 rfl) ?_
    refine lv_isub hx hb dX4_power_32 ?_
    refine lv_topi (fun x12 ex12 => ?_)
    obtain rfl : x12 = (nI (tt - 16 + 0)) := (ex12.trans (by rw [nI_sub (by omega) (by omega)]; congr 1; omega))
    refine lv_istore (lv' := [(5, .int (nI (tt - 16 + 0))), (3, .double 0), (2, .int (nI (tt - (tt - 16)))), (0, .ref om), (1, .int (nI fx))]) hx hb dX4_power_33 hl (by decide) rfl (fun ls hl => ?_)
    exact LOOP (tt - (tt - 16)) 0 0 (by omega) rfl _ _ _ hd0 (hP.sub [0, 1, 2] rfl) (hD.sub [0, 1, 2] (by decide) rfl) hS ls (lv_sub hl [3, 4, 2, 1, 0] rfl)
  refine lv_icmp_ge (tgt := 20) hx hb dX4_power_8 (by decide) (fun _ => ?_) (fun h => absurd (nI_le (a := 16) (by omega) (by omega)) h)
  refine lv_bipush (v := 16) hx hb dX4_power_20 (by decide) ?_
  have e9 : (16 : Int32) = (nI (tt - (tt - 16))) := by rw [show tt - (tt - 16) = 16 by omega]; rfl
  refine lv_topi (fun x99 ex99 => ?_)
  obtain rfl : x99 = (nI (tt - (tt - 16))) := ex99.trans e9
  refine lv_istore_n (lv' := [(2, .int (nI (tt - (tt - 16)))), (0, .ref om), (1, .int (nI fx))]) hx hb dX4_power_22 rfl hl (by decide) rfl (fun ls hl => ?_)
  refine lv_dc0 hx hb dX4_power_23 ?_
  refine lv_dstore_n (lv' := [(3, .double 0), (2, .int (nI (tt - (tt - 16)))), (0, .ref om), (1, .int (nI fx))]) hx hb dX4_power_24 rfl hl (by decide) rfl (fun ls hl => ?_)
  refine lv_aload_n hx hb dX4_power_25 rfl (lv_at hl 2 rfl) ?_
  refine va_get (D := G) (ci := 4) (v := .ref (am 11)) (C := RX4) (T := TX4) (N := 24) hx hb (dr_words hts s.drawn) in_X4_power_X4 hown hK hP 0 rfl rfl 15 (by decide) (dr_words hts s.drawn (.fieldLink RX4 44 "EchoBenchModel" "had" "[I") (by decide +kernel)) (fun _ h9 => h9) rfl dX4_power_26 ?_
  refine lv_iload_n hx hb dX4_power_29 rfl (lv_at hl 3 rfl) ?_
  refine va_ialdJ (s := s.setDrawn s.drawn) hx hb hK hP 1 0 rfl rfl (j := fx) rfl (by omega) (by decide) dX4_power_30 ?_
  rw [hH]
  refine lv_iload_n hx hb dX4_power_31 rfl (lv_at hl 1 rfl) ?_
  refine lv_isub hx hb dX4_power_32 ?_
  refine lv_topi (fun x14 ex14 => ?_)
  obtain rfl : x14 = (nI (tt - 16 + 0)) := (ex14.trans (by rw [nI_sub (by omega) (by omega)]; congr 1; omega))
  refine lv_istore (lv' := [(5, .int (nI (tt - 16 + 0))), (3, .double 0), (2, .int (nI (tt - (tt - 16)))), (0, .ref om), (1, .int (nI fx))]) hx hb dX4_power_33 hl (by decide) rfl (fun ls hl => ?_)
  exact LOOP (tt - (tt - 16)) 0 0 (by omega) rfl _ _ _ hd0 (hP.sub [0, 1, 2] rfl) (hD.sub [0, 1, 2] (by decide) rfl) hS ls (lv_sub hl [3, 4, 2, 1, 0] rfl)

theorem in_X4_count_X4 : ∀ w ∈ wsX40, w ∈ wsX4_count := by decide +kernel
set_option maxHeartbeats 4000000 in
set_option maxRecDepth 100000 in
/-- count -/
theorem m_X4_count0 (l : Launch) (G : va_G) (q : Nat → ClassId) (sz : Nat) (om : Nat) (am : Nat → Nat) (th sa : Int32) (mi : UInt64) (nf : Nat) (fx : Nat) (Hi : Nat → Int32) (hnf : nf ≤ 6) (hfx : fx < nf) : Met l yX4_count wsX4_count ({ frames := 2, cells := 0, slots := 0, locals := 43 } : Jvm.Room) (PreW G q [.ref om, .int (nI fx), .int 0] [(om, .inr (4, [.int th, .int sa, .ref (am 0), .ref (am 1), .double mi, .ref (am 2), .ref (am 3), .ref (am 4), .int (nI nf), .ref (am 5), .ref (am 6), .ref (am 7), .ref (am 8), .ref (am 9), .ref (am 10), .ref (am 11), .ref (am 12), .ref (am 13), .ref (am 14), .ref (am 15), .ref (am 16), .ref (am 17), .ref (am 18), .ref (am 19)])), ((am 11), aI q 6 Hi)] sz) (va_Qi (fun (r : Int32) (_ : Unit) => r = Hi fx) (fun (_ : Unit) t => EndA G (va_A [(om, .inr (4, [.int th, .int sa, .ref (am 0), .ref (am 1), .double mi, .ref (am 2), .ref (am 3), .ref (am 4), .int (nI nf), .ref (am 5), .ref (am 6), .ref (am 7), .ref (am 8), .ref (am 9), .ref (am 10), .ref (am 11), .ref (am 12), .ref (am 13), .ref (am 14), .ref (am 15), .ref (am 16), .ref (am 17), .ref (am 18), .ref (am 19)])), ((am 11), aI q 6 Hi)] sz) [(om, .inr (4, [.int 0, .int sa, .ref (am 0), .ref (am 1), .double mi, .ref (am 2), .ref (am 3), .ref (am 4), .int (nI nf), .ref (am 5), .ref (am 6), .ref (am 7), .ref (am 8), .ref (am 9), .ref (am 10), .ref (am 11), .ref (am 12), .ref (am 13), .ref (am 14), .ref (am 15), .ref (am 16), .ref (am 17), .ref (am 18), .ref (am 19)])), ((am 11), aI q 6 Hi)] t) (va_A [(om, .inr (4, [.int th, .int sa, .ref (am 0), .ref (am 1), .double mi, .ref (am 2), .ref (am 3), .ref (am 4), .int (nI nf), .ref (am 5), .ref (am 6), .ref (am 7), .ref (am 8), .ref (am 9), .ref (am 10), .ref (am 11), .ref (am 12), .ref (am 13), .ref (am 14), .ref (am 15), .ref (am 16), .ref (am 17), .ref (am 18), .ref (am 19)])), ((am 11), aI q 6 Hi)] sz)) 0 0 (va_A [(om, .inr (4, [.int th, .int sa, .ref (am 0), .ref (am 1), .double mi, .ref (am 2), .ref (am 3), .ref (am 4), .int (nI nf), .ref (am 5), .ref (am 6), .ref (am 7), .ref (am 8), .ref (am 9), .ref (am 10), .ref (am 11), .ref (am 12), .ref (am 13), .ref (am 14), .ref (am 15), .ref (am 16), .ref (am 17), .ref (am 18), .ref (am 19)])), ((am 11), aI q 6 Hi)] sz) := by
  refine Met.ofW (cc := cX4_count) (maxL := 4) (ret := (some .int)) (by decide +kernel) rfl ?_
  intro p e s m args below meth c s₁ B hml hv
  obtain ⟨rfl, hsz, hP, hK, hD0, hNF⟩ := hv
  have hx := B.exec
  have hb := B.bytes
  have hr := B.returns
  have hts := atoms_spec (ws := wsX4_count) B.pre
  have hown : s.vm.findClass RX4 = some m.cls := findClass_of_methodNamed B.named
  have hlocks := B.notSynchronized
  subst hsz
  have hD := hD0.self (sz := s.heap.size)
  generalize hAe : va_A [(om, .inr (4, [.int th, .int sa, .ref (am 0), .ref (am 1), .double mi, .ref (am 2), .ref (am 3), .ref (am 4), .int (nI nf), .ref (am 5), .ref (am 6), .ref (am 7), .ref (am 8), .ref (am 9), .ref (am 10), .ref (am 11), .ref (am 12), .ref (am 13), .ref (am 14), .ref (am 15), .ref (am 16), .ref (am 17), .ref (am 18), .ref (am 19)])), ((am 11), aI q 6 Hi)] s.heap.size = A at hD ⊢
  have hA : ∀ q : Nat, s.heap.size ≤ q → A q := fun q h => by rw [← hAe]; exact Or.inr h
  have hS : va_S A s.heap s.heap [] := va_S.rf
  have hP : va_P G vwCl [(om, .inr (4, [.int th, .int sa, .ref (am 0), .ref (am 1), .double mi, .ref (am 2), .ref (am 3), .ref (am 4), .int (nI nf), .ref (am 5), .ref (am 6), .ref (am 7), .ref (am 8), .ref (am 9), .ref (am 10), .ref (am 11), .ref (am 12), .ref (am 13), .ref (am 14), .ref (am 15), .ref (am 16), .ref (am 17), .ref (am 18), .ref (am 19)])), ((am 11), aI q 6 Hi)] s.heap := hP
  have hl := lv_entry ([.ref om, .int (nI fx), .int 0]) (n := 4) (Nat.le_of_ble_eq_true rfl)
  rw [lg_entry_eq]
  generalize (lg_sl ([.ref om, .int (nI fx), .int 0]) ++ List.replicate (4 - (lg_sl ([.ref om, .int (nI fx), .int 0])).length) Slot.unset).toArray = ls at hl ⊢
  have hl : lv_has ls 4 [(0, .ref om), (1, .int (nI fx)), (2, .int 0)] := hl
  refine lv_aload_n hx hb dX4_count_0 rfl (lv_at hl 0 rfl) ?_
  refine lv_iload_n hx hb dX4_count_1 rfl (lv_at hl 1 rfl) ?_
  have hPc := hP.sub (ws' := [(om, .inr (4, [.int th, .int sa, .ref (am 0), .ref (am 1), .double mi, .ref (am 2), .ref (am 3), .ref (am 4), .int (nI nf), .ref (am 5), .ref (am 6), .ref (am 7), .ref (am 8), .ref (am 9), .ref (am 10), .ref (am 11), .ref (am 12), .ref (am 13), .ref (am 14), .ref (am 15), .ref (am 16), .ref (am 17), .ref (am 18), .ref (am 19)]))]) [0] rfl
  have hDc := hD.sub (ws' := [(om, .inr (4, [.int th, .int sa, .ref (am 0), .ref (am 1), .double mi, .ref (am 2), .ref (am 3), .ref (am 4), .int (nI nf), .ref (am 5), .ref (am 6), .ref (am 7), .ref (am 8), .ref (am 9), .ref (am 10), .ref (am 11), .ref (am 12), .ref (am 13), .ref (am 14), .ref (am 15), .ref (am 16), .ref (am 17), .ref (am 18), .ref (am 19)]))]) [0] (by decide) rfl
  have hFc := va_free (wc := [(om, .inr (4, [.int th, .int sa, .ref (am 0), .ref (am 1), .double mi, .ref (am 2), .ref (am 3), .ref (am 4), .int (nI nf), .ref (am 5), .ref (am 6), .ref (am 7), .ref (am 8), .ref (am 9), .ref (am 10), .ref (am 11), .ref (am 12), .ref (am 13), .ref (am 14), .ref (am 15), .ref (am 16), .ref (am 17), .ref (am 18), .ref (am 19)]))]) hD hS hA [0] rfl
  refine va_calli (va_runV (As := [.int (nI fx)]) (rest := []) ⟨hx, hb, hml, hown, hts⟩ (m_X4_isFilter l G q s.heap.size om am th sa (nI nf) mi (nI fx)) (cwV 1 hts gX4_count_X4_isFilter rfl rfl rfl (by decide +kernel) ⟨Nat.le_of_ble_eq_true rfl, Nat.le_of_ble_eq_true rfl⟩) ⟨preW_blind, (va_recv hK hPc (ci := 4) (q0 := 0) rfl rfl), preW_start hPc hK hDc hNF⟩ rfl rfl hl.1 rfl (lv_room (Nat.le_of_ble_eq_true rfl)) dX4_count_2 ⟨(Nat.zero_le _), (Nat.zero_le _)⟩) hS (fun q _ h => hFc q h) hFc (fun rf1 u9 t9 H1 locs ht9 hv9 hw hB9 hz9 hk9 hS => ?_)
  obtain ⟨⟩ := u9
  obtain ⟨hP1, hD1⟩ := hB9
  rw [ht9] at hP1
  obtain ⟨hP, hD⟩ := va_join (wr := [((am 11), aI q 6 Hi)]) (w1 := [(om, .inr (4, [.int th, .int sa, .ref (am 0), .ref (am 1), .double mi, .ref (am 2), .ref (am 3), .ref (am 4), .int (nI nf), .ref (am 5), .ref (am 6), .ref (am 7), .ref (am 8), .ref (am 9), .ref (am 10), .ref (am 11), .ref (am 12), .ref (am 13), .ref (am 14), .ref (am 15), .ref (am 16), .ref (am 17), .ref (am 18), .ref (am 19)]))]) hP hD [0] [1] rfl rfl (by decide) (by decide) hk9 hFc hP1 hD1
  generalize H1 = H at hP hS ⊢
  have hP : va_P G vwCl [((am 11), aI q 6 Hi), (om, .inr (4, [.int th, .int sa, .ref (am 0), .ref (am 1), .double mi, .ref (am 2), .ref (am 3), .ref (am 4), .int (nI nf), .ref (am 5), .ref (am 6), .ref (am 7), .ref (am 8), .ref (am 9), .ref (am 10), .ref (am 11), .ref (am 12), .ref (am 13), .ref (am 14), .ref (am 15), .ref (am 16), .ref (am 17), .ref (am 18), .ref (am 19)]))] H := hP
  have hD : va_D A [((am 11), aI q 6 Hi), (om, .inr (4, [.int th, .int sa, .ref (am 0), .ref (am 1), .double mi, .ref (am 2), .ref (am 3), .ref (am 4), .int (nI nf), .ref (am 5), .ref (am 6), .ref (am 7), .ref (am 8), .ref (am 9), .ref (am 10), .ref (am 11), .ref (am 12), .ref (am 13), .ref (am 14), .ref (am 15), .ref (am 16), .ref (am 17), .ref (am 18), .ref (am 19)]))] := hD
  obtain rfl : rf1 = 1 := hw.trans (if_pos (m1_in (by omega) hfx))
  refine lv_istore_n (lv' := [(3, .int 1), (0, .ref om), (1, .int (nI fx)), (2, .int 0)]) hx hb dX4_count_5 rfl hl (by decide) rfl (fun ls hl => ?_)
  refine lv_aload_n hx hb dX4_count_6 rfl (lv_at hl 1 rfl) ?_
  refine lv_iload_n hx hb dX4_count_7 rfl (lv_at hl 0 rfl) ?_
  refine lv_if_ne (tgt := 15) hx hb dX4_count_8 (by decide) (fun _ => ?_) (fun h => absurd h (by decide))
  refine lv_iload_n hx hb dX4_count_15 rfl (lv_at hl 3 rfl) ?_
  refine lv_iconst (v := 0) hx hb dX4_count_16 (by decide) ?_
  refine lv_iconst (v := 3) hx hb dX4_count_17 (by decide) ?_
  have hPc := hP.sub (ws' := []) [] rfl
  have hDc := hD.sub (ws' := []) [] (by decide) rfl
  have hFc := va_free (wc := []) hD hS hA [] rfl
  refine va_calli (va_runS (As := [.int 0, .int 0, .int 3]) (rest := [.ref om]) ⟨hx, hb, hml, hown, hts⟩ (m_X4_in l G q H.size 0 0 3) (va_cwS 3 hts gX4_count_X4_in rfl rfl rfl (by decide +kernel) ⟨Nat.le_of_ble_eq_true rfl, Nat.le_of_ble_eq_true rfl⟩) ⟨preW_blind, preW_start hPc hK hDc hNF⟩ rfl rfl hl.1 rfl (lv_room (Nat.le_of_ble_eq_true rfl)) dX4_count_18 ⟨(Nat.zero_le _), (Nat.zero_le _)⟩) hS (fun q _ h => hFc q h) hFc (fun ri4 u9 t9 H1 locs ht9 hv9 hw hB9 hz9 hk9 hS => ?_)
  obtain ⟨⟩ := u9
  obtain ⟨hP1, hD1⟩ := hB9
  rw [ht9] at hP1
  obtain ⟨hP, hD⟩ := va_join (wr := [((am 11), aI q 6 Hi), (om, .inr (4, [.int th, .int sa, .ref (am 0), .ref (am 1), .double mi, .ref (am 2), .ref (am 3), .ref (am 4), .int (nI nf), .ref (am 5), .ref (am 6), .ref (am 7), .ref (am 8), .ref (am 9), .ref (am 10), .ref (am 11), .ref (am 12), .ref (am 13), .ref (am 14), .ref (am 15), .ref (am 16), .ref (am 17), .ref (am 18), .ref (am 19)]))]) (w1 := []) hP hD [] [0, 1] rfl rfl (by decide) (by decide) hk9 hFc hP1 hD1
  generalize H1 = H at hP hS ⊢
  have hP : va_P G vwCl [((am 11), aI q 6 Hi), (om, .inr (4, [.int th, .int sa, .ref (am 0), .ref (am 1), .double mi, .ref (am 2), .ref (am 3), .ref (am 4), .int (nI nf), .ref (am 5), .ref (am 6), .ref (am 7), .ref (am 8), .ref (am 9), .ref (am 10), .ref (am 11), .ref (am 12), .ref (am 13), .ref (am 14), .ref (am 15), .ref (am 16), .ref (am 17), .ref (am 18), .ref (am 19)]))] H := hP
  have hD : va_D A [((am 11), aI q 6 Hi), (om, .inr (4, [.int th, .int sa, .ref (am 0), .ref (am 1), .double mi, .ref (am 2), .ref (am 3), .ref (am 4), .int (nI nf), .ref (am 5), .ref (am 6), .ref (am 7), .ref (am 8), .ref (am 9), .ref (am 10), .ref (am 11), .ref (am 12), .ref (am 13), .ref (am 14), .ref (am 15), .ref (am 16), .ref (am 17), .ref (am 18), .ref (am 19)]))] := hD
  obtain rfl : ri4 = 1 := hw.trans (if_pos (by decide))
  refine lv_if_eq (tgt := 28) hx hb dX4_count_21 (by decide) (fun h => absurd h (by decide)) (fun _ => ?_)
  refine lv_iconst (v := 0) hx hb dX4_count_24 (by decide) ?_
  refine lv_goto (tgt := 29) hx hb dX4_count_25 (by decide) ?_
  have hPc := hP.sub (ws' := [(om, .inr (4, [.int th, .int sa, .ref (am 0), .ref (am 1), .double mi, .ref (am 2), .ref (am 3), .ref (am 4), .int (nI nf), .ref (am 5), .ref (am 6), .ref (am 7), .ref (am 8), .ref (am 9), .ref (am 10), .ref (am 11), .ref (am 12), .ref (am 13), .ref (am 14), .ref (am 15), .ref (am 16), .ref (am 17), .ref (am 18), .ref (am 19)]))]) [1] rfl
  have hDc := hD.sub (ws' := [(om, .inr (4, [.int th, .int sa, .ref (am 0), .ref (am 1), .double mi, .ref (am 2), .ref (am 3), .ref (am 4), .int (nI nf), .ref (am 5), .ref (am 6), .ref (am 7), .ref (am 8), .ref (am 9), .ref (am 10), .ref (am 11), .ref (am 12), .ref (am 13), .ref (am 14), .ref (am 15), .ref (am 16), .ref (am 17), .ref (am 18), .ref (am 19)]))]) [1] (by decide) rfl
  have hFc := va_free (wc := [(om, .inr (4, [.int th, .int sa, .ref (am 0), .ref (am 1), .double mi, .ref (am 2), .ref (am 3), .ref (am 4), .int (nI nf), .ref (am 5), .ref (am 6), .ref (am 7), .ref (am 8), .ref (am 9), .ref (am 10), .ref (am 11), .ref (am 12), .ref (am 13), .ref (am 14), .ref (am 15), .ref (am 16), .ref (am 17), .ref (am 18), .ref (am 19)]))]) hD hS hA [1] rfl
  refine va_calli (va_runV (As := [.int 0]) (rest := []) ⟨hx, hb, hml, hown, hts⟩ (m_X4_goesWell l G q H.size om am th sa (nI nf) mi 0) (cwV 1 hts gX4_count_X4_goesWell rfl rfl rfl (by decide +kernel) ⟨Nat.le_of_ble_eq_true rfl, Nat.le_of_ble_eq_true rfl⟩) ⟨preW_blind, (va_recv hK hPc (ci := 4) (q0 := 0) rfl rfl), preW_start hPc hK hDc hNF⟩ rfl rfl hl.1 rfl (lv_room (Nat.le_of_ble_eq_true rfl)) dX4_count_29 ⟨(Nat.zero_le _), (Nat.zero_le _)⟩) hS (fun q _ h => hFc q h) hFc (fun gr7 u9 t9 H1 locs ht9 hv9 hw hB9 hz9 hk9 hS => ?_)
  obtain ⟨⟩ := u9
  obtain ⟨hP1, hD1⟩ := hB9
  rw [ht9] at hP1
  obtain ⟨hP, hD⟩ := va_join (wr := [((am 11), aI q 6 Hi)]) (w1 := [(om, .inr (4, [.int 0, .int sa, .ref (am 0), .ref (am 1), .double mi, .ref (am 2), .ref (am 3), .ref (am 4), .int (nI nf), .ref (am 5), .ref (am 6), .ref (am 7), .ref (am 8), .ref (am 9), .ref (am 10), .ref (am 11), .ref (am 12), .ref (am 13), .ref (am 14), .ref (am 15), .ref (am 16), .ref (am 17), .ref (am 18), .ref (am 19)]))]) hP hD [1] [0] rfl rfl (by decide) (by decide) hk9 hFc hP1 hD1
  generalize H1 = H at hP hS ⊢
  have hP : va_P G vwCl [((am 11), aI q 6 Hi), (om, .inr (4, [.int 0, .int sa, .ref (am 0), .ref (am 1), .double mi, .ref (am 2), .ref (am 3), .ref (am 4), .int (nI nf), .ref (am 5), .ref (am 6), .ref (am 7), .ref (am 8), .ref (am 9), .ref (am 10), .ref (am 11), .ref (am 12), .ref (am 13), .ref (am 14), .ref (am 15), .ref (am 16), .ref (am 17), .ref (am 18), .ref (am 19)]))] H := hP
  have hD : va_D A [((am 11), aI q 6 Hi), (om, .inr (4, [.int 0, .int sa, .ref (am 0), .ref (am 1), .double mi, .ref (am 2), .ref (am 3), .ref (am 4), .int (nI nf), .ref (am 5), .ref (am 6), .ref (am 7), .ref (am 8), .ref (am 9), .ref (am 10), .ref (am 11), .ref (am 12), .ref (am 13), .ref (am 14), .ref (am 15), .ref (am 16), .ref (am 17), .ref (am 18), .ref (am 19)]))] := hD
  obtain rfl : gr7 = 1 := hw.trans (by decide)
  refine lv_if_ne (tgt := 37) hx hb dX4_count_32 (by decide) (fun _ => ?_) (fun h => absurd h (by decide))
  refine lv_iload_n hx hb dX4_count_37 rfl (lv_at hl 3 rfl) ?_
  refine lv_if_ne (tgt := 50) hx hb dX4_count_38 (by decide) (fun h => absurd (by decide) h) (fun _ => ?_)
  refine lv_aload_n hx hb dX4_count_41 rfl (lv_at hl 1 rfl) ?_
  refine va_get (D := G) (ci := 4) (v := .ref (am 11)) (C := RX4) (T := TX4) (N := 24) hx hb hts in_X4_count_X4 hown hK hP 1 rfl rfl 15 (by decide) (hts (.fieldLink RX4 44 "EchoBenchModel" "had" "[I") (by decide +kernel)) (fun _ h9 => h9) rfl dX4_count_42 ?_
  refine lv_iload_n hx hb dX4_count_45 rfl (lv_at hl 2 rfl) ?_
  refine va_ialdJ hx hb hK hP 0 0 rfl rfl (j := fx) rfl (by omega) (by decide) dX4_count_46 ?_
  refine lv_goto (tgt := 84) hx hb dX4_count_47 (by decide) ?_
  have hP := hP.sub (ws' := [(om, .inr (4, [.int 0, .int sa, .ref (am 0), .ref (am 1), .double mi, .ref (am 2), .ref (am 3), .ref (am 4), .int (nI nf), .ref (am 5), .ref (am 6), .ref (am 7), .ref (am 8), .ref (am 9), .ref (am 10), .ref (am 11), .ref (am 12), .ref (am 13), .ref (am 14), .ref (am 15), .ref (am 16), .ref (am 17), .ref (am 18), .ref (am 19)])), ((am 11), aI q 6 Hi)]) [1, 0] rfl
  have hD := hD.sub (ws' := [(om, .inr (4, [.int 0, .int sa, .ref (am 0), .ref (am 1), .double mi, .ref (am 2), .ref (am 3), .ref (am 4), .int (nI nf), .ref (am 5), .ref (am 6), .ref (am 7), .ref (am 8), .ref (am 9), .ref (am 10), .ref (am 11), .ref (am 12), .ref (am 13), .ref (am 14), .ref (am 15), .ref (am 16), .ref (am 17), .ref (am 18), .ref (am 19)])), ((am 11), aI q 6 Hi)]) [1, 0] (by decide) rfl
  have hP9 := hP
  have hD9 := hD
  exact W.iret (v := Hi fx) hx hb hr (fun t ht hW => ⟨⟨Hi fx, (), rfl, rfl, by rw [ht]; exact hP9, hD9⟩, hS.F ht⟩) hS.2.2 dX4_count_84

set_option maxHeartbeats 4000000 in
set_option maxRecDepth 100000 in
/-- count -/
theorem m_X4_count1 (l : Launch) (G : va_G) (q : Nat → ClassId) (sz : Nat) (om : Nat) (am : Nat → Nat) (th sa : Int32) (mi : UInt64) (nf : Nat) (fx : Nat) (Di : Nat → Int32) (hnf : nf ≤ 6) (hfx : fx < nf) : Met l yX4_count wsX4_count ({ frames := 2, cells := 0, slots := 0, locals := 43 } : Jvm.Room) (PreW G q [.ref om, .int (nI fx), .int 1] [(om, .inr (4, [.int th, .int sa, .ref (am 0), .ref (am 1), .double mi, .ref (am 2), .ref (am 3), .ref (am 4), .int (nI nf), .ref (am 5), .ref (am 6), .ref (am 7), .ref (am 8), .ref (am 9), .ref (am 10), .ref (am 11), .ref (am 12), .ref (am 13), .ref (am 14), .ref (am 15), .ref (am 16), .ref (am 17), .ref (am 18), .ref (am 19)])), ((am 12), aI q 6 Di)] sz) (va_Qi (fun (r : Int32) (_ : Unit) => r = Di fx) (fun (_ : Unit) t => EndA G (va_A [(om, .inr (4, [.int th, .int sa, .ref (am 0), .ref (am 1), .double mi, .ref (am 2), .ref (am 3), .ref (am 4), .int (nI nf), .ref (am 5), .ref (am 6), .ref (am 7), .ref (am 8), .ref (am 9), .ref (am 10), .ref (am 11), .ref (am 12), .ref (am 13), .ref (am 14), .ref (am 15), .ref (am 16), .ref (am 17), .ref (am 18), .ref (am 19)])), ((am 12), aI q 6 Di)] sz) [(om, .inr (4, [.int 0, .int sa, .ref (am 0), .ref (am 1), .double mi, .ref (am 2), .ref (am 3), .ref (am 4), .int (nI nf), .ref (am 5), .ref (am 6), .ref (am 7), .ref (am 8), .ref (am 9), .ref (am 10), .ref (am 11), .ref (am 12), .ref (am 13), .ref (am 14), .ref (am 15), .ref (am 16), .ref (am 17), .ref (am 18), .ref (am 19)])), ((am 12), aI q 6 Di)] t) (va_A [(om, .inr (4, [.int th, .int sa, .ref (am 0), .ref (am 1), .double mi, .ref (am 2), .ref (am 3), .ref (am 4), .int (nI nf), .ref (am 5), .ref (am 6), .ref (am 7), .ref (am 8), .ref (am 9), .ref (am 10), .ref (am 11), .ref (am 12), .ref (am 13), .ref (am 14), .ref (am 15), .ref (am 16), .ref (am 17), .ref (am 18), .ref (am 19)])), ((am 12), aI q 6 Di)] sz)) 0 0 (va_A [(om, .inr (4, [.int th, .int sa, .ref (am 0), .ref (am 1), .double mi, .ref (am 2), .ref (am 3), .ref (am 4), .int (nI nf), .ref (am 5), .ref (am 6), .ref (am 7), .ref (am 8), .ref (am 9), .ref (am 10), .ref (am 11), .ref (am 12), .ref (am 13), .ref (am 14), .ref (am 15), .ref (am 16), .ref (am 17), .ref (am 18), .ref (am 19)])), ((am 12), aI q 6 Di)] sz) := by
  refine Met.ofW (cc := cX4_count) (maxL := 4) (ret := (some .int)) (by decide +kernel) rfl ?_
  intro p e s m args below meth c s₁ B hml hv
  obtain ⟨rfl, hsz, hP, hK, hD0, hNF⟩ := hv
  have hx := B.exec
  have hb := B.bytes
  have hr := B.returns
  have hts := atoms_spec (ws := wsX4_count) B.pre
  have hown : s.vm.findClass RX4 = some m.cls := findClass_of_methodNamed B.named
  have hlocks := B.notSynchronized
  subst hsz
  have hD := hD0.self (sz := s.heap.size)
  generalize hAe : va_A [(om, .inr (4, [.int th, .int sa, .ref (am 0), .ref (am 1), .double mi, .ref (am 2), .ref (am 3), .ref (am 4), .int (nI nf), .ref (am 5), .ref (am 6), .ref (am 7), .ref (am 8), .ref (am 9), .ref (am 10), .ref (am 11), .ref (am 12), .ref (am 13), .ref (am 14), .ref (am 15), .ref (am 16), .ref (am 17), .ref (am 18), .ref (am 19)])), ((am 12), aI q 6 Di)] s.heap.size = A at hD ⊢
  have hA : ∀ q : Nat, s.heap.size ≤ q → A q := fun q h => by rw [← hAe]; exact Or.inr h
  have hS : va_S A s.heap s.heap [] := va_S.rf
  have hP : va_P G vwCl [(om, .inr (4, [.int th, .int sa, .ref (am 0), .ref (am 1), .double mi, .ref (am 2), .ref (am 3), .ref (am 4), .int (nI nf), .ref (am 5), .ref (am 6), .ref (am 7), .ref (am 8), .ref (am 9), .ref (am 10), .ref (am 11), .ref (am 12), .ref (am 13), .ref (am 14), .ref (am 15), .ref (am 16), .ref (am 17), .ref (am 18), .ref (am 19)])), ((am 12), aI q 6 Di)] s.heap := hP
  have hl := lv_entry ([.ref om, .int (nI fx), .int 1]) (n := 4) (Nat.le_of_ble_eq_true rfl)
  rw [lg_entry_eq]
  generalize (lg_sl ([.ref om, .int (nI fx), .int 1]) ++ List.replicate (4 - (lg_sl ([.ref om, .int (nI fx), .int 1])).length) Slot.unset).toArray = ls at hl ⊢
  have hl : lv_has ls 4 [(0, .ref om), (1, .int (nI fx)), (2, .int 1)] := hl
  refine lv_aload_n hx hb dX4_count_0 rfl (lv_at hl 0 rfl) ?_
  refine lv_iload_n hx hb dX4_count_1 rfl (lv_at hl 1 rfl) ?_
  have hPc := hP.sub (ws' := [(om, .inr (4, [.int th, .int sa, .ref (am 0), .ref (am 1), .double mi, .ref (am 2), .ref (am 3), .ref (am 4), .int (nI nf), .ref (am 5), .ref (am 6), .ref (am 7), .ref (am 8), .ref (am 9), .ref (am 10), .ref (am 11), .ref (am 12), .ref (am 13), .ref (am 14), .ref (am 15), .ref (am 16), .ref (am 17), .ref (am 18), .ref (am 19)]))]) [0] rfl
  have hDc := hD.sub (ws' := [(om, .inr (4, [.int th, .int sa, .ref (am 0), .ref (am 1), .double mi, .ref (am 2), .ref (am 3), .ref (am 4), .int (nI nf), .ref (am 5), .ref (am 6), .ref (am 7), .ref (am 8), .ref (am 9), .ref (am 10), .ref (am 11), .ref (am 12), .ref (am 13), .ref (am 14), .ref (am 15), .ref (am 16), .ref (am 17), .ref (am 18), .ref (am 19)]))]) [0] (by decide) rfl
  have hFc := va_free (wc := [(om, .inr (4, [.int th, .int sa, .ref (am 0), .ref (am 1), .double mi, .ref (am 2), .ref (am 3), .ref (am 4), .int (nI nf), .ref (am 5), .ref (am 6), .ref (am 7), .ref (am 8), .ref (am 9), .ref (am 10), .ref (am 11), .ref (am 12), .ref (am 13), .ref (am 14), .ref (am 15), .ref (am 16), .ref (am 17), .ref (am 18), .ref (am 19)]))]) hD hS hA [0] rfl
  refine va_calli (va_runV (As := [.int (nI fx)]) (rest := []) ⟨hx, hb, hml, hown, hts⟩ (m_X4_isFilter l G q s.heap.size om am th sa (nI nf) mi (nI fx)) (cwV 1 hts gX4_count_X4_isFilter rfl rfl rfl (by decide +kernel) ⟨Nat.le_of_ble_eq_true rfl, Nat.le_of_ble_eq_true rfl⟩) ⟨preW_blind, (va_recv hK hPc (ci := 4) (q0 := 0) rfl rfl), preW_start hPc hK hDc hNF⟩ rfl rfl hl.1 rfl (lv_room (Nat.le_of_ble_eq_true rfl)) dX4_count_2 ⟨(Nat.zero_le _), (Nat.zero_le _)⟩) hS (fun q _ h => hFc q h) hFc (fun rf1 u9 t9 H1 locs ht9 hv9 hw hB9 hz9 hk9 hS => ?_)
  obtain ⟨⟩ := u9
  obtain ⟨hP1, hD1⟩ := hB9
  rw [ht9] at hP1
  obtain ⟨hP, hD⟩ := va_join (wr := [((am 12), aI q 6 Di)]) (w1 := [(om, .inr (4, [.int th, .int sa, .ref (am 0), .ref (am 1), .double mi, .ref (am 2), .ref (am 3), .ref (am 4), .int (nI nf), .ref (am 5), .ref (am 6), .ref (am 7), .ref (am 8), .ref (am 9), .ref (am 10), .ref (am 11), .ref (am 12), .ref (am 13), .ref (am 14), .ref (am 15), .ref (am 16), .ref (am 17), .ref (am 18), .ref (am 19)]))]) hP hD [0] [1] rfl rfl (by decide) (by decide) hk9 hFc hP1 hD1
  generalize H1 = H at hP hS ⊢
  have hP : va_P G vwCl [((am 12), aI q 6 Di), (om, .inr (4, [.int th, .int sa, .ref (am 0), .ref (am 1), .double mi, .ref (am 2), .ref (am 3), .ref (am 4), .int (nI nf), .ref (am 5), .ref (am 6), .ref (am 7), .ref (am 8), .ref (am 9), .ref (am 10), .ref (am 11), .ref (am 12), .ref (am 13), .ref (am 14), .ref (am 15), .ref (am 16), .ref (am 17), .ref (am 18), .ref (am 19)]))] H := hP
  have hD : va_D A [((am 12), aI q 6 Di), (om, .inr (4, [.int th, .int sa, .ref (am 0), .ref (am 1), .double mi, .ref (am 2), .ref (am 3), .ref (am 4), .int (nI nf), .ref (am 5), .ref (am 6), .ref (am 7), .ref (am 8), .ref (am 9), .ref (am 10), .ref (am 11), .ref (am 12), .ref (am 13), .ref (am 14), .ref (am 15), .ref (am 16), .ref (am 17), .ref (am 18), .ref (am 19)]))] := hD
  obtain rfl : rf1 = 1 := hw.trans (if_pos (m1_in (by omega) hfx))
  refine lv_istore_n (lv' := [(3, .int 1), (0, .ref om), (1, .int (nI fx)), (2, .int 1)]) hx hb dX4_count_5 rfl hl (by decide) rfl (fun ls hl => ?_)
  refine lv_aload_n hx hb dX4_count_6 rfl (lv_at hl 1 rfl) ?_
  refine lv_iload_n hx hb dX4_count_7 rfl (lv_at hl 0 rfl) ?_
  refine lv_if_ne (tgt := 15) hx hb dX4_count_8 (by decide) (fun _ => ?_) (fun h => absurd h (by decide))
  refine lv_iload_n hx hb dX4_count_15 rfl (lv_at hl 3 rfl) ?_
  refine lv_iconst (v := 0) hx hb dX4_count_16 (by decide) ?_
  refine lv_iconst (v := 3) hx hb dX4_count_17 (by decide) ?_
  have hPc := hP.sub (ws' := []) [] rfl
  have hDc := hD.sub (ws' := []) [] (by decide) rfl
  have hFc := va_free (wc := []) hD hS hA [] rfl
  refine va_calli (va_runS (As := [.int 1, .int 0, .int 3]) (rest := [.ref om]) ⟨hx, hb, hml, hown, hts⟩ (m_X4_in l G q H.size 1 0 3) (va_cwS 3 hts gX4_count_X4_in rfl rfl rfl (by decide +kernel) ⟨Nat.le_of_ble_eq_true rfl, Nat.le_of_ble_eq_true rfl⟩) ⟨preW_blind, preW_start hPc hK hDc hNF⟩ rfl rfl hl.1 rfl (lv_room (Nat.le_of_ble_eq_true rfl)) dX4_count_18 ⟨(Nat.zero_le _), (Nat.zero_le _)⟩) hS (fun q _ h => hFc q h) hFc (fun ri4 u9 t9 H1 locs ht9 hv9 hw hB9 hz9 hk9 hS => ?_)
  obtain ⟨⟩ := u9
  obtain ⟨hP1, hD1⟩ := hB9
  rw [ht9] at hP1
  obtain ⟨hP, hD⟩ := va_join (wr := [((am 12), aI q 6 Di), (om, .inr (4, [.int th, .int sa, .ref (am 0), .ref (am 1), .double mi, .ref (am 2), .ref (am 3), .ref (am 4), .int (nI nf), .ref (am 5), .ref (am 6), .ref (am 7), .ref (am 8), .ref (am 9), .ref (am 10), .ref (am 11), .ref (am 12), .ref (am 13), .ref (am 14), .ref (am 15), .ref (am 16), .ref (am 17), .ref (am 18), .ref (am 19)]))]) (w1 := []) hP hD [] [0, 1] rfl rfl (by decide) (by decide) hk9 hFc hP1 hD1
  generalize H1 = H at hP hS ⊢
  have hP : va_P G vwCl [((am 12), aI q 6 Di), (om, .inr (4, [.int th, .int sa, .ref (am 0), .ref (am 1), .double mi, .ref (am 2), .ref (am 3), .ref (am 4), .int (nI nf), .ref (am 5), .ref (am 6), .ref (am 7), .ref (am 8), .ref (am 9), .ref (am 10), .ref (am 11), .ref (am 12), .ref (am 13), .ref (am 14), .ref (am 15), .ref (am 16), .ref (am 17), .ref (am 18), .ref (am 19)]))] H := hP
  have hD : va_D A [((am 12), aI q 6 Di), (om, .inr (4, [.int th, .int sa, .ref (am 0), .ref (am 1), .double mi, .ref (am 2), .ref (am 3), .ref (am 4), .int (nI nf), .ref (am 5), .ref (am 6), .ref (am 7), .ref (am 8), .ref (am 9), .ref (am 10), .ref (am 11), .ref (am 12), .ref (am 13), .ref (am 14), .ref (am 15), .ref (am 16), .ref (am 17), .ref (am 18), .ref (am 19)]))] := hD
  obtain rfl : ri4 = 1 := hw.trans (if_pos (by decide))
  refine lv_if_eq (tgt := 28) hx hb dX4_count_21 (by decide) (fun h => absurd h (by decide)) (fun _ => ?_)
  refine lv_iconst (v := 0) hx hb dX4_count_24 (by decide) ?_
  refine lv_goto (tgt := 29) hx hb dX4_count_25 (by decide) ?_
  have hPc := hP.sub (ws' := [(om, .inr (4, [.int th, .int sa, .ref (am 0), .ref (am 1), .double mi, .ref (am 2), .ref (am 3), .ref (am 4), .int (nI nf), .ref (am 5), .ref (am 6), .ref (am 7), .ref (am 8), .ref (am 9), .ref (am 10), .ref (am 11), .ref (am 12), .ref (am 13), .ref (am 14), .ref (am 15), .ref (am 16), .ref (am 17), .ref (am 18), .ref (am 19)]))]) [1] rfl
  have hDc := hD.sub (ws' := [(om, .inr (4, [.int th, .int sa, .ref (am 0), .ref (am 1), .double mi, .ref (am 2), .ref (am 3), .ref (am 4), .int (nI nf), .ref (am 5), .ref (am 6), .ref (am 7), .ref (am 8), .ref (am 9), .ref (am 10), .ref (am 11), .ref (am 12), .ref (am 13), .ref (am 14), .ref (am 15), .ref (am 16), .ref (am 17), .ref (am 18), .ref (am 19)]))]) [1] (by decide) rfl
  have hFc := va_free (wc := [(om, .inr (4, [.int th, .int sa, .ref (am 0), .ref (am 1), .double mi, .ref (am 2), .ref (am 3), .ref (am 4), .int (nI nf), .ref (am 5), .ref (am 6), .ref (am 7), .ref (am 8), .ref (am 9), .ref (am 10), .ref (am 11), .ref (am 12), .ref (am 13), .ref (am 14), .ref (am 15), .ref (am 16), .ref (am 17), .ref (am 18), .ref (am 19)]))]) hD hS hA [1] rfl
  refine va_calli (va_runV (As := [.int 0]) (rest := []) ⟨hx, hb, hml, hown, hts⟩ (m_X4_goesWell l G q H.size om am th sa (nI nf) mi 0) (cwV 1 hts gX4_count_X4_goesWell rfl rfl rfl (by decide +kernel) ⟨Nat.le_of_ble_eq_true rfl, Nat.le_of_ble_eq_true rfl⟩) ⟨preW_blind, (va_recv hK hPc (ci := 4) (q0 := 0) rfl rfl), preW_start hPc hK hDc hNF⟩ rfl rfl hl.1 rfl (lv_room (Nat.le_of_ble_eq_true rfl)) dX4_count_29 ⟨(Nat.zero_le _), (Nat.zero_le _)⟩) hS (fun q _ h => hFc q h) hFc (fun gr7 u9 t9 H1 locs ht9 hv9 hw hB9 hz9 hk9 hS => ?_)
  obtain ⟨⟩ := u9
  obtain ⟨hP1, hD1⟩ := hB9
  rw [ht9] at hP1
  obtain ⟨hP, hD⟩ := va_join (wr := [((am 12), aI q 6 Di)]) (w1 := [(om, .inr (4, [.int 0, .int sa, .ref (am 0), .ref (am 1), .double mi, .ref (am 2), .ref (am 3), .ref (am 4), .int (nI nf), .ref (am 5), .ref (am 6), .ref (am 7), .ref (am 8), .ref (am 9), .ref (am 10), .ref (am 11), .ref (am 12), .ref (am 13), .ref (am 14), .ref (am 15), .ref (am 16), .ref (am 17), .ref (am 18), .ref (am 19)]))]) hP hD [1] [0] rfl rfl (by decide) (by decide) hk9 hFc hP1 hD1
  generalize H1 = H at hP hS ⊢
  have hP : va_P G vwCl [((am 12), aI q 6 Di), (om, .inr (4, [.int 0, .int sa, .ref (am 0), .ref (am 1), .double mi, .ref (am 2), .ref (am 3), .ref (am 4), .int (nI nf), .ref (am 5), .ref (am 6), .ref (am 7), .ref (am 8), .ref (am 9), .ref (am 10), .ref (am 11), .ref (am 12), .ref (am 13), .ref (am 14), .ref (am 15), .ref (am 16), .ref (am 17), .ref (am 18), .ref (am 19)]))] H := hP
  have hD : va_D A [((am 12), aI q 6 Di), (om, .inr (4, [.int 0, .int sa, .ref (am 0), .ref (am 1), .double mi, .ref (am 2), .ref (am 3), .ref (am 4), .int (nI nf), .ref (am 5), .ref (am 6), .ref (am 7), .ref (am 8), .ref (am 9), .ref (am 10), .ref (am 11), .ref (am 12), .ref (am 13), .ref (am 14), .ref (am 15), .ref (am 16), .ref (am 17), .ref (am 18), .ref (am 19)]))] := hD
  obtain rfl : gr7 = 1 := hw.trans (by decide)
  refine lv_if_ne (tgt := 37) hx hb dX4_count_32 (by decide) (fun _ => ?_) (fun h => absurd h (by decide))
  refine lv_iload_n hx hb dX4_count_37 rfl (lv_at hl 3 rfl) ?_
  refine lv_if_ne (tgt := 50) hx hb dX4_count_38 (by decide) (fun _ => ?_) (fun h => absurd h (by decide))
  refine lv_iload_n hx hb dX4_count_50 rfl (lv_at hl 3 rfl) ?_
  refine lv_iconst (v := 1) hx hb dX4_count_51 (by decide) ?_
  refine lv_icmp_ne (tgt := 64) hx hb dX4_count_52 (by decide) (fun h => absurd (by decide) h) (fun _ => ?_)
  refine lv_aload_n hx hb dX4_count_55 rfl (lv_at hl 1 rfl) ?_
  refine va_get (D := G) (ci := 4) (v := .ref (am 12)) (C := RX4) (T := TX4) (N := 24) hx hb hts in_X4_count_X4 hown hK hP 1 rfl rfl 16 (by decide) (hts (.fieldLink RX4 47 "EchoBenchModel" "held" "[I") (by decide +kernel)) (fun _ h9 => h9) rfl dX4_count_56 ?_
  refine lv_iload_n hx hb dX4_count_59 rfl (lv_at hl 2 rfl) ?_
  refine va_ialdJ hx hb hK hP 0 0 rfl rfl (j := fx) rfl (by omega) (by decide) dX4_count_60 ?_
  refine lv_goto (tgt := 84) hx hb dX4_count_61 (by decide) ?_
  have hP := hP.sub (ws' := [(om, .inr (4, [.int 0, .int sa, .ref (am 0), .ref (am 1), .double mi, .ref (am 2), .ref (am 3), .ref (am 4), .int (nI nf), .ref (am 5), .ref (am 6), .ref (am 7), .ref (am 8), .ref (am 9), .ref (am 10), .ref (am 11), .ref (am 12), .ref (am 13), .ref (am 14), .ref (am 15), .ref (am 16), .ref (am 17), .ref (am 18), .ref (am 19)])), ((am 12), aI q 6 Di)]) [1, 0] rfl
  have hD := hD.sub (ws' := [(om, .inr (4, [.int 0, .int sa, .ref (am 0), .ref (am 1), .double mi, .ref (am 2), .ref (am 3), .ref (am 4), .int (nI nf), .ref (am 5), .ref (am 6), .ref (am 7), .ref (am 8), .ref (am 9), .ref (am 10), .ref (am 11), .ref (am 12), .ref (am 13), .ref (am 14), .ref (am 15), .ref (am 16), .ref (am 17), .ref (am 18), .ref (am 19)])), ((am 12), aI q 6 Di)]) [1, 0] (by decide) rfl
  have hP9 := hP
  have hD9 := hD
  exact W.iret (v := Di fx) hx hb hr (fun t ht hW => ⟨⟨Di fx, (), rfl, rfl, by rw [ht]; exact hP9, hD9⟩, hS.F ht⟩) hS.2.2 dX4_count_84

set_option maxHeartbeats 4000000 in
set_option maxRecDepth 100000 in
/-- count -/
theorem m_X4_count2 (l : Launch) (G : va_G) (q : Nat → ClassId) (sz : Nat) (om : Nat) (am : Nat → Nat) (th sa : Int32) (mi : UInt64) (nf : Nat) (fx : Nat) (Ri : Nat → Int32) (hnf : nf ≤ 6) (hfx : fx < nf) : Met l yX4_count wsX4_count ({ frames := 2, cells := 0, slots := 0, locals := 43 } : Jvm.Room) (PreW G q [.ref om, .int (nI fx), .int 2] [(om, .inr (4, [.int th, .int sa, .ref (am 0), .ref (am 1), .double mi, .ref (am 2), .ref (am 3), .ref (am 4), .int (nI nf), .ref (am 5), .ref (am 6), .ref (am 7), .ref (am 8), .ref (am 9), .ref (am 10), .ref (am 11), .ref (am 12), .ref (am 13), .ref (am 14), .ref (am 15), .ref (am 16), .ref (am 17), .ref (am 18), .ref (am 19)])), ((am 13), aI q 6 Ri)] sz) (va_Qi (fun (r : Int32) (_ : Unit) => r = Ri fx) (fun (_ : Unit) t => EndA G (va_A [(om, .inr (4, [.int th, .int sa, .ref (am 0), .ref (am 1), .double mi, .ref (am 2), .ref (am 3), .ref (am 4), .int (nI nf), .ref (am 5), .ref (am 6), .ref (am 7), .ref (am 8), .ref (am 9), .ref (am 10), .ref (am 11), .ref (am 12), .ref (am 13), .ref (am 14), .ref (am 15), .ref (am 16), .ref (am 17), .ref (am 18), .ref (am 19)])), ((am 13), aI q 6 Ri)] sz) [(om, .inr (4, [.int 0, .int sa, .ref (am 0), .ref (am 1), .double mi, .ref (am 2), .ref (am 3), .ref (am 4), .int (nI nf), .ref (am 5), .ref (am 6), .ref (am 7), .ref (am 8), .ref (am 9), .ref (am 10), .ref (am 11), .ref (am 12), .ref (am 13), .ref (am 14), .ref (am 15), .ref (am 16), .ref (am 17), .ref (am 18), .ref (am 19)])), ((am 13), aI q 6 Ri)] t) (va_A [(om, .inr (4, [.int th, .int sa, .ref (am 0), .ref (am 1), .double mi, .ref (am 2), .ref (am 3), .ref (am 4), .int (nI nf), .ref (am 5), .ref (am 6), .ref (am 7), .ref (am 8), .ref (am 9), .ref (am 10), .ref (am 11), .ref (am 12), .ref (am 13), .ref (am 14), .ref (am 15), .ref (am 16), .ref (am 17), .ref (am 18), .ref (am 19)])), ((am 13), aI q 6 Ri)] sz)) 0 0 (va_A [(om, .inr (4, [.int th, .int sa, .ref (am 0), .ref (am 1), .double mi, .ref (am 2), .ref (am 3), .ref (am 4), .int (nI nf), .ref (am 5), .ref (am 6), .ref (am 7), .ref (am 8), .ref (am 9), .ref (am 10), .ref (am 11), .ref (am 12), .ref (am 13), .ref (am 14), .ref (am 15), .ref (am 16), .ref (am 17), .ref (am 18), .ref (am 19)])), ((am 13), aI q 6 Ri)] sz) := by
  refine Met.ofW (cc := cX4_count) (maxL := 4) (ret := (some .int)) (by decide +kernel) rfl ?_
  intro p e s m args below meth c s₁ B hml hv
  obtain ⟨rfl, hsz, hP, hK, hD0, hNF⟩ := hv
  have hx := B.exec
  have hb := B.bytes
  have hr := B.returns
  have hts := atoms_spec (ws := wsX4_count) B.pre
  have hown : s.vm.findClass RX4 = some m.cls := findClass_of_methodNamed B.named
  have hlocks := B.notSynchronized
  subst hsz
  have hD := hD0.self (sz := s.heap.size)
  generalize hAe : va_A [(om, .inr (4, [.int th, .int sa, .ref (am 0), .ref (am 1), .double mi, .ref (am 2), .ref (am 3), .ref (am 4), .int (nI nf), .ref (am 5), .ref (am 6), .ref (am 7), .ref (am 8), .ref (am 9), .ref (am 10), .ref (am 11), .ref (am 12), .ref (am 13), .ref (am 14), .ref (am 15), .ref (am 16), .ref (am 17), .ref (am 18), .ref (am 19)])), ((am 13), aI q 6 Ri)] s.heap.size = A at hD ⊢
  have hA : ∀ q : Nat, s.heap.size ≤ q → A q := fun q h => by rw [← hAe]; exact Or.inr h
  have hS : va_S A s.heap s.heap [] := va_S.rf
  have hP : va_P G vwCl [(om, .inr (4, [.int th, .int sa, .ref (am 0), .ref (am 1), .double mi, .ref (am 2), .ref (am 3), .ref (am 4), .int (nI nf), .ref (am 5), .ref (am 6), .ref (am 7), .ref (am 8), .ref (am 9), .ref (am 10), .ref (am 11), .ref (am 12), .ref (am 13), .ref (am 14), .ref (am 15), .ref (am 16), .ref (am 17), .ref (am 18), .ref (am 19)])), ((am 13), aI q 6 Ri)] s.heap := hP
  have hl := lv_entry ([.ref om, .int (nI fx), .int 2]) (n := 4) (Nat.le_of_ble_eq_true rfl)
  rw [lg_entry_eq]
  generalize (lg_sl ([.ref om, .int (nI fx), .int 2]) ++ List.replicate (4 - (lg_sl ([.ref om, .int (nI fx), .int 2])).length) Slot.unset).toArray = ls at hl ⊢
  have hl : lv_has ls 4 [(0, .ref om), (1, .int (nI fx)), (2, .int 2)] := hl
  refine lv_aload_n hx hb dX4_count_0 rfl (lv_at hl 0 rfl) ?_
  refine lv_iload_n hx hb dX4_count_1 rfl (lv_at hl 1 rfl) ?_
  have hPc := hP.sub (ws' := [(om, .inr (4, [.int th, .int sa, .ref (am 0), .ref (am 1), .double mi, .ref (am 2), .ref (am 3), .ref (am 4), .int (nI nf), .ref (am 5), .ref (am 6), .ref (am 7), .ref (am 8), .ref (am 9), .ref (am 10), .ref (am 11), .ref (am 12), .ref (am 13), .ref (am 14), .ref (am 15), .ref (am 16), .ref (am 17), .ref (am 18), .ref (am 19)]))]) [0] rfl
  have hDc := hD.sub (ws' := [(om, .inr (4, [.int th, .int sa, .ref (am 0), .ref (am 1), .double mi, .ref (am 2), .ref (am 3), .ref (am 4), .int (nI nf), .ref (am 5), .ref (am 6), .ref (am 7), .ref (am 8), .ref (am 9), .ref (am 10), .ref (am 11), .ref (am 12), .ref (am 13), .ref (am 14), .ref (am 15), .ref (am 16), .ref (am 17), .ref (am 18), .ref (am 19)]))]) [0] (by decide) rfl
  have hFc := va_free (wc := [(om, .inr (4, [.int th, .int sa, .ref (am 0), .ref (am 1), .double mi, .ref (am 2), .ref (am 3), .ref (am 4), .int (nI nf), .ref (am 5), .ref (am 6), .ref (am 7), .ref (am 8), .ref (am 9), .ref (am 10), .ref (am 11), .ref (am 12), .ref (am 13), .ref (am 14), .ref (am 15), .ref (am 16), .ref (am 17), .ref (am 18), .ref (am 19)]))]) hD hS hA [0] rfl
  refine va_calli (va_runV (As := [.int (nI fx)]) (rest := []) ⟨hx, hb, hml, hown, hts⟩ (m_X4_isFilter l G q s.heap.size om am th sa (nI nf) mi (nI fx)) (cwV 1 hts gX4_count_X4_isFilter rfl rfl rfl (by decide +kernel) ⟨Nat.le_of_ble_eq_true rfl, Nat.le_of_ble_eq_true rfl⟩) ⟨preW_blind, (va_recv hK hPc (ci := 4) (q0 := 0) rfl rfl), preW_start hPc hK hDc hNF⟩ rfl rfl hl.1 rfl (lv_room (Nat.le_of_ble_eq_true rfl)) dX4_count_2 ⟨(Nat.zero_le _), (Nat.zero_le _)⟩) hS (fun q _ h => hFc q h) hFc (fun rf1 u9 t9 H1 locs ht9 hv9 hw hB9 hz9 hk9 hS => ?_)
  obtain ⟨⟩ := u9
  obtain ⟨hP1, hD1⟩ := hB9
  rw [ht9] at hP1
  obtain ⟨hP, hD⟩ := va_join (wr := [((am 13), aI q 6 Ri)]) (w1 := [(om, .inr (4, [.int th, .int sa, .ref (am 0), .ref (am 1), .double mi, .ref (am 2), .ref (am 3), .ref (am 4), .int (nI nf), .ref (am 5), .ref (am 6), .ref (am 7), .ref (am 8), .ref (am 9), .ref (am 10), .ref (am 11), .ref (am 12), .ref (am 13), .ref (am 14), .ref (am 15), .ref (am 16), .ref (am 17), .ref (am 18), .ref (am 19)]))]) hP hD [0] [1] rfl rfl (by decide) (by decide) hk9 hFc hP1 hD1
  generalize H1 = H at hP hS ⊢
  have hP : va_P G vwCl [((am 13), aI q 6 Ri), (om, .inr (4, [.int th, .int sa, .ref (am 0), .ref (am 1), .double mi, .ref (am 2), .ref (am 3), .ref (am 4), .int (nI nf), .ref (am 5), .ref (am 6), .ref (am 7), .ref (am 8), .ref (am 9), .ref (am 10), .ref (am 11), .ref (am 12), .ref (am 13), .ref (am 14), .ref (am 15), .ref (am 16), .ref (am 17), .ref (am 18), .ref (am 19)]))] H := hP
  have hD : va_D A [((am 13), aI q 6 Ri), (om, .inr (4, [.int th, .int sa, .ref (am 0), .ref (am 1), .double mi, .ref (am 2), .ref (am 3), .ref (am 4), .int (nI nf), .ref (am 5), .ref (am 6), .ref (am 7), .ref (am 8), .ref (am 9), .ref (am 10), .ref (am 11), .ref (am 12), .ref (am 13), .ref (am 14), .ref (am 15), .ref (am 16), .ref (am 17), .ref (am 18), .ref (am 19)]))] := hD
  obtain rfl : rf1 = 1 := hw.trans (if_pos (m1_in (by omega) hfx))
  refine lv_istore_n (lv' := [(3, .int 1), (0, .ref om), (1, .int (nI fx)), (2, .int 2)]) hx hb dX4_count_5 rfl hl (by decide) rfl (fun ls hl => ?_)
  refine lv_aload_n hx hb dX4_count_6 rfl (lv_at hl 1 rfl) ?_
  refine lv_iload_n hx hb dX4_count_7 rfl (lv_at hl 0 rfl) ?_
  refine lv_if_ne (tgt := 15) hx hb dX4_count_8 (by decide) (fun _ => ?_) (fun h => absurd h (by decide))
  refine lv_iload_n hx hb dX4_count_15 rfl (lv_at hl 3 rfl) ?_
  refine lv_iconst (v := 0) hx hb dX4_count_16 (by decide) ?_
  refine lv_iconst (v := 3) hx hb dX4_count_17 (by decide) ?_
  have hPc := hP.sub (ws' := []) [] rfl
  have hDc := hD.sub (ws' := []) [] (by decide) rfl
  have hFc := va_free (wc := []) hD hS hA [] rfl
  refine va_calli (va_runS (As := [.int 2, .int 0, .int 3]) (rest := [.ref om]) ⟨hx, hb, hml, hown, hts⟩ (m_X4_in l G q H.size 2 0 3) (va_cwS 3 hts gX4_count_X4_in rfl rfl rfl (by decide +kernel) ⟨Nat.le_of_ble_eq_true rfl, Nat.le_of_ble_eq_true rfl⟩) ⟨preW_blind, preW_start hPc hK hDc hNF⟩ rfl rfl hl.1 rfl (lv_room (Nat.le_of_ble_eq_true rfl)) dX4_count_18 ⟨(Nat.zero_le _), (Nat.zero_le _)⟩) hS (fun q _ h => hFc q h) hFc (fun ri4 u9 t9 H1 locs ht9 hv9 hw hB9 hz9 hk9 hS => ?_)
  obtain ⟨⟩ := u9
  obtain ⟨hP1, hD1⟩ := hB9
  rw [ht9] at hP1
  obtain ⟨hP, hD⟩ := va_join (wr := [((am 13), aI q 6 Ri), (om, .inr (4, [.int th, .int sa, .ref (am 0), .ref (am 1), .double mi, .ref (am 2), .ref (am 3), .ref (am 4), .int (nI nf), .ref (am 5), .ref (am 6), .ref (am 7), .ref (am 8), .ref (am 9), .ref (am 10), .ref (am 11), .ref (am 12), .ref (am 13), .ref (am 14), .ref (am 15), .ref (am 16), .ref (am 17), .ref (am 18), .ref (am 19)]))]) (w1 := []) hP hD [] [0, 1] rfl rfl (by decide) (by decide) hk9 hFc hP1 hD1
  generalize H1 = H at hP hS ⊢
  have hP : va_P G vwCl [((am 13), aI q 6 Ri), (om, .inr (4, [.int th, .int sa, .ref (am 0), .ref (am 1), .double mi, .ref (am 2), .ref (am 3), .ref (am 4), .int (nI nf), .ref (am 5), .ref (am 6), .ref (am 7), .ref (am 8), .ref (am 9), .ref (am 10), .ref (am 11), .ref (am 12), .ref (am 13), .ref (am 14), .ref (am 15), .ref (am 16), .ref (am 17), .ref (am 18), .ref (am 19)]))] H := hP
  have hD : va_D A [((am 13), aI q 6 Ri), (om, .inr (4, [.int th, .int sa, .ref (am 0), .ref (am 1), .double mi, .ref (am 2), .ref (am 3), .ref (am 4), .int (nI nf), .ref (am 5), .ref (am 6), .ref (am 7), .ref (am 8), .ref (am 9), .ref (am 10), .ref (am 11), .ref (am 12), .ref (am 13), .ref (am 14), .ref (am 15), .ref (am 16), .ref (am 17), .ref (am 18), .ref (am 19)]))] := hD
  obtain rfl : ri4 = 1 := hw.trans (if_pos (by decide))
  refine lv_if_eq (tgt := 28) hx hb dX4_count_21 (by decide) (fun h => absurd h (by decide)) (fun _ => ?_)
  refine lv_iconst (v := 0) hx hb dX4_count_24 (by decide) ?_
  refine lv_goto (tgt := 29) hx hb dX4_count_25 (by decide) ?_
  have hPc := hP.sub (ws' := [(om, .inr (4, [.int th, .int sa, .ref (am 0), .ref (am 1), .double mi, .ref (am 2), .ref (am 3), .ref (am 4), .int (nI nf), .ref (am 5), .ref (am 6), .ref (am 7), .ref (am 8), .ref (am 9), .ref (am 10), .ref (am 11), .ref (am 12), .ref (am 13), .ref (am 14), .ref (am 15), .ref (am 16), .ref (am 17), .ref (am 18), .ref (am 19)]))]) [1] rfl
  have hDc := hD.sub (ws' := [(om, .inr (4, [.int th, .int sa, .ref (am 0), .ref (am 1), .double mi, .ref (am 2), .ref (am 3), .ref (am 4), .int (nI nf), .ref (am 5), .ref (am 6), .ref (am 7), .ref (am 8), .ref (am 9), .ref (am 10), .ref (am 11), .ref (am 12), .ref (am 13), .ref (am 14), .ref (am 15), .ref (am 16), .ref (am 17), .ref (am 18), .ref (am 19)]))]) [1] (by decide) rfl
  have hFc := va_free (wc := [(om, .inr (4, [.int th, .int sa, .ref (am 0), .ref (am 1), .double mi, .ref (am 2), .ref (am 3), .ref (am 4), .int (nI nf), .ref (am 5), .ref (am 6), .ref (am 7), .ref (am 8), .ref (am 9), .ref (am 10), .ref (am 11), .ref (am 12), .ref (am 13), .ref (am 14), .ref (am 15), .ref (am 16), .ref (am 17), .ref (am 18), .ref (am 19)]))]) hD hS hA [1] rfl
  refine va_calli (va_runV (As := [.int 0]) (rest := []) ⟨hx, hb, hml, hown, hts⟩ (m_X4_goesWell l G q H.size om am th sa (nI nf) mi 0) (cwV 1 hts gX4_count_X4_goesWell rfl rfl rfl (by decide +kernel) ⟨Nat.le_of_ble_eq_true rfl, Nat.le_of_ble_eq_true rfl⟩) ⟨preW_blind, (va_recv hK hPc (ci := 4) (q0 := 0) rfl rfl), preW_start hPc hK hDc hNF⟩ rfl rfl hl.1 rfl (lv_room (Nat.le_of_ble_eq_true rfl)) dX4_count_29 ⟨(Nat.zero_le _), (Nat.zero_le _)⟩) hS (fun q _ h => hFc q h) hFc (fun gr7 u9 t9 H1 locs ht9 hv9 hw hB9 hz9 hk9 hS => ?_)
  obtain ⟨⟩ := u9
  obtain ⟨hP1, hD1⟩ := hB9
  rw [ht9] at hP1
  obtain ⟨hP, hD⟩ := va_join (wr := [((am 13), aI q 6 Ri)]) (w1 := [(om, .inr (4, [.int 0, .int sa, .ref (am 0), .ref (am 1), .double mi, .ref (am 2), .ref (am 3), .ref (am 4), .int (nI nf), .ref (am 5), .ref (am 6), .ref (am 7), .ref (am 8), .ref (am 9), .ref (am 10), .ref (am 11), .ref (am 12), .ref (am 13), .ref (am 14), .ref (am 15), .ref (am 16), .ref (am 17), .ref (am 18), .ref (am 19)]))]) hP hD [1] [0] rfl rfl (by decide) (by decide) hk9 hFc hP1 hD1
  generalize H1 = H at hP hS ⊢
  have hP : va_P G vwCl [((am 13), aI q 6 Ri), (om, .inr (4, [.int 0, .int sa, .ref (am 0), .ref (am 1), .double mi, .ref (am 2), .ref (am 3), .ref (am 4), .int (nI nf), .ref (am 5), .ref (am 6), .ref (am 7), .ref (am 8), .ref (am 9), .ref (am 10), .ref (am 11), .ref (am 12), .ref (am 13), .ref (am 14), .ref (am 15), .ref (am 16), .ref (am 17), .ref (am 18), .ref (am 19)]))] H := hP
  have hD : va_D A [((am 13), aI q 6 Ri), (om, .inr (4, [.int 0, .int sa, .ref (am 0), .ref (am 1), .double mi, .ref (am 2), .ref (am 3), .ref (am 4), .int (nI nf), .ref (am 5), .ref (am 6), .ref (am 7), .ref (am 8), .ref (am 9), .ref (am 10), .ref (am 11), .ref (am 12), .ref (am 13), .ref (am 14), .ref (am 15), .ref (am 16), .ref (am 17), .ref (am 18), .ref (am 19)]))] := hD
  obtain rfl : gr7 = 1 := hw.trans (by decide)
  refine lv_if_ne (tgt := 37) hx hb dX4_count_32 (by decide) (fun _ => ?_) (fun h => absurd h (by decide))
  refine lv_iload_n hx hb dX4_count_37 rfl (lv_at hl 3 rfl) ?_
  refine lv_if_ne (tgt := 50) hx hb dX4_count_38 (by decide) (fun _ => ?_) (fun h => absurd h (by decide))
  refine lv_iload_n hx hb dX4_count_50 rfl (lv_at hl 3 rfl) ?_
  refine lv_iconst (v := 1) hx hb dX4_count_51 (by decide) ?_
  refine lv_icmp_ne (tgt := 64) hx hb dX4_count_52 (by decide) (fun _ => ?_) (fun h => absurd h (by decide))
  refine lv_iload_n hx hb dX4_count_64 rfl (lv_at hl 3 rfl) ?_
  refine lv_iconst (v := 2) hx hb dX4_count_65 (by decide) ?_
  refine lv_icmp_ne (tgt := 78) hx hb dX4_count_66 (by decide) (fun h => absurd (by decide) h) (fun _ => ?_)
  refine lv_aload_n hx hb dX4_count_69 rfl (lv_at hl 1 rfl) ?_
  refine va_get (D := G) (ci := 4) (v := .ref (am 13)) (C := RX4) (T := TX4) (N := 24) hx hb hts in_X4_count_X4 hown hK hP 1 rfl rfl 17 (by decide) (hts (.fieldLink RX4 50 "EchoBenchModel" "resets" "[I") (by decide +kernel)) (fun _ h9 => h9) rfl dX4_count_70 ?_
  refine lv_iload_n hx hb dX4_count_73 rfl (lv_at hl 2 rfl) ?_
  refine va_ialdJ hx hb hK hP 0 0 rfl rfl (j := fx) rfl (by omega) (by decide) dX4_count_74 ?_
  refine lv_goto (tgt := 84) hx hb dX4_count_75 (by decide) ?_
  have hP := hP.sub (ws' := [(om, .inr (4, [.int 0, .int sa, .ref (am 0), .ref (am 1), .double mi, .ref (am 2), .ref (am 3), .ref (am 4), .int (nI nf), .ref (am 5), .ref (am 6), .ref (am 7), .ref (am 8), .ref (am 9), .ref (am 10), .ref (am 11), .ref (am 12), .ref (am 13), .ref (am 14), .ref (am 15), .ref (am 16), .ref (am 17), .ref (am 18), .ref (am 19)])), ((am 13), aI q 6 Ri)]) [1, 0] rfl
  have hD := hD.sub (ws' := [(om, .inr (4, [.int 0, .int sa, .ref (am 0), .ref (am 1), .double mi, .ref (am 2), .ref (am 3), .ref (am 4), .int (nI nf), .ref (am 5), .ref (am 6), .ref (am 7), .ref (am 8), .ref (am 9), .ref (am 10), .ref (am 11), .ref (am 12), .ref (am 13), .ref (am 14), .ref (am 15), .ref (am 16), .ref (am 17), .ref (am 18), .ref (am 19)])), ((am 13), aI q 6 Ri)]) [1, 0] (by decide) rfl
  have hP9 := hP
  have hD9 := hD
  exact W.iret (v := Ri fx) hx hb hr (fun t ht hW => ⟨⟨Ri fx, (), rfl, rfl, by rw [ht]; exact hP9, hD9⟩, hS.F ht⟩) hS.2.2 dX4_count_84

set_option maxHeartbeats 4000000 in
set_option maxRecDepth 100000 in
/-- count -/
theorem m_X4_count3 (l : Launch) (G : va_G) (q : Nat → ClassId) (sz : Nat) (om : Nat) (am : Nat → Nat) (th sa : Int32) (mi : UInt64) (nf : Nat) (fx : Nat) (Li : Nat → Int32) (hnf : nf ≤ 6) (hfx : fx < nf) : Met l yX4_count wsX4_count ({ frames := 2, cells := 0, slots := 0, locals := 43 } : Jvm.Room) (PreW G q [.ref om, .int (nI fx), .int 3] [(om, .inr (4, [.int th, .int sa, .ref (am 0), .ref (am 1), .double mi, .ref (am 2), .ref (am 3), .ref (am 4), .int (nI nf), .ref (am 5), .ref (am 6), .ref (am 7), .ref (am 8), .ref (am 9), .ref (am 10), .ref (am 11), .ref (am 12), .ref (am 13), .ref (am 14), .ref (am 15), .ref (am 16), .ref (am 17), .ref (am 18), .ref (am 19)])), ((am 10), aI q 6 Li)] sz) (va_Qi (fun (r : Int32) (_ : Unit) => r = Li fx) (fun (_ : Unit) t => EndA G (va_A [(om, .inr (4, [.int th, .int sa, .ref (am 0), .ref (am 1), .double mi, .ref (am 2), .ref (am 3), .ref (am 4), .int (nI nf), .ref (am 5), .ref (am 6), .ref (am 7), .ref (am 8), .ref (am 9), .ref (am 10), .ref (am 11), .ref (am 12), .ref (am 13), .ref (am 14), .ref (am 15), .ref (am 16), .ref (am 17), .ref (am 18), .ref (am 19)])), ((am 10), aI q 6 Li)] sz) [(om, .inr (4, [.int 0, .int sa, .ref (am 0), .ref (am 1), .double mi, .ref (am 2), .ref (am 3), .ref (am 4), .int (nI nf), .ref (am 5), .ref (am 6), .ref (am 7), .ref (am 8), .ref (am 9), .ref (am 10), .ref (am 11), .ref (am 12), .ref (am 13), .ref (am 14), .ref (am 15), .ref (am 16), .ref (am 17), .ref (am 18), .ref (am 19)])), ((am 10), aI q 6 Li)] t) (va_A [(om, .inr (4, [.int th, .int sa, .ref (am 0), .ref (am 1), .double mi, .ref (am 2), .ref (am 3), .ref (am 4), .int (nI nf), .ref (am 5), .ref (am 6), .ref (am 7), .ref (am 8), .ref (am 9), .ref (am 10), .ref (am 11), .ref (am 12), .ref (am 13), .ref (am 14), .ref (am 15), .ref (am 16), .ref (am 17), .ref (am 18), .ref (am 19)])), ((am 10), aI q 6 Li)] sz)) 0 0 (va_A [(om, .inr (4, [.int th, .int sa, .ref (am 0), .ref (am 1), .double mi, .ref (am 2), .ref (am 3), .ref (am 4), .int (nI nf), .ref (am 5), .ref (am 6), .ref (am 7), .ref (am 8), .ref (am 9), .ref (am 10), .ref (am 11), .ref (am 12), .ref (am 13), .ref (am 14), .ref (am 15), .ref (am 16), .ref (am 17), .ref (am 18), .ref (am 19)])), ((am 10), aI q 6 Li)] sz) := by
  refine Met.ofW (cc := cX4_count) (maxL := 4) (ret := (some .int)) (by decide +kernel) rfl ?_
  intro p e s m args below meth c s₁ B hml hv
  obtain ⟨rfl, hsz, hP, hK, hD0, hNF⟩ := hv
  have hx := B.exec
  have hb := B.bytes
  have hr := B.returns
  have hts := atoms_spec (ws := wsX4_count) B.pre
  have hown : s.vm.findClass RX4 = some m.cls := findClass_of_methodNamed B.named
  have hlocks := B.notSynchronized
  subst hsz
  have hD := hD0.self (sz := s.heap.size)
  generalize hAe : va_A [(om, .inr (4, [.int th, .int sa, .ref (am 0), .ref (am 1), .double mi, .ref (am 2), .ref (am 3), .ref (am 4), .int (nI nf), .ref (am 5), .ref (am 6), .ref (am 7), .ref (am 8), .ref (am 9), .ref (am 10), .ref (am 11), .ref (am 12), .ref (am 13), .ref (am 14), .ref (am 15), .ref (am 16), .ref (am 17), .ref (am 18), .ref (am 19)])), ((am 10), aI q 6 Li)] s.heap.size = A at hD ⊢
  have hA : ∀ q : Nat, s.heap.size ≤ q → A q := fun q h => by rw [← hAe]; exact Or.inr h
  have hS : va_S A s.heap s.heap [] := va_S.rf
  have hP : va_P G vwCl [(om, .inr (4, [.int th, .int sa, .ref (am 0), .ref (am 1), .double mi, .ref (am 2), .ref (am 3), .ref (am 4), .int (nI nf), .ref (am 5), .ref (am 6), .ref (am 7), .ref (am 8), .ref (am 9), .ref (am 10), .ref (am 11), .ref (am 12), .ref (am 13), .ref (am 14), .ref (am 15), .ref (am 16), .ref (am 17), .ref (am 18), .ref (am 19)])), ((am 10), aI q 6 Li)] s.heap := hP
  have hl := lv_entry ([.ref om, .int (nI fx), .int 3]) (n := 4) (Nat.le_of_ble_eq_true rfl)
  rw [lg_entry_eq]
  generalize (lg_sl ([.ref om, .int (nI fx), .int 3]) ++ List.replicate (4 - (lg_sl ([.ref om, .int (nI fx), .int 3])).length) Slot.unset).toArray = ls at hl ⊢
  have hl : lv_has ls 4 [(0, .ref om), (1, .int (nI fx)), (2, .int 3)] := hl
  refine lv_aload_n hx hb dX4_count_0 rfl (lv_at hl 0 rfl) ?_
  refine lv_iload_n hx hb dX4_count_1 rfl (lv_at hl 1 rfl) ?_
  have hPc := hP.sub (ws' := [(om, .inr (4, [.int th, .int sa, .ref (am 0), .ref (am 1), .double mi, .ref (am 2), .ref (am 3), .ref (am 4), .int (nI nf), .ref (am 5), .ref (am 6), .ref (am 7), .ref (am 8), .ref (am 9), .ref (am 10), .ref (am 11), .ref (am 12), .ref (am 13), .ref (am 14), .ref (am 15), .ref (am 16), .ref (am 17), .ref (am 18), .ref (am 19)]))]) [0] rfl
  have hDc := hD.sub (ws' := [(om, .inr (4, [.int th, .int sa, .ref (am 0), .ref (am 1), .double mi, .ref (am 2), .ref (am 3), .ref (am 4), .int (nI nf), .ref (am 5), .ref (am 6), .ref (am 7), .ref (am 8), .ref (am 9), .ref (am 10), .ref (am 11), .ref (am 12), .ref (am 13), .ref (am 14), .ref (am 15), .ref (am 16), .ref (am 17), .ref (am 18), .ref (am 19)]))]) [0] (by decide) rfl
  have hFc := va_free (wc := [(om, .inr (4, [.int th, .int sa, .ref (am 0), .ref (am 1), .double mi, .ref (am 2), .ref (am 3), .ref (am 4), .int (nI nf), .ref (am 5), .ref (am 6), .ref (am 7), .ref (am 8), .ref (am 9), .ref (am 10), .ref (am 11), .ref (am 12), .ref (am 13), .ref (am 14), .ref (am 15), .ref (am 16), .ref (am 17), .ref (am 18), .ref (am 19)]))]) hD hS hA [0] rfl
  refine va_calli (va_runV (As := [.int (nI fx)]) (rest := []) ⟨hx, hb, hml, hown, hts⟩ (m_X4_isFilter l G q s.heap.size om am th sa (nI nf) mi (nI fx)) (cwV 1 hts gX4_count_X4_isFilter rfl rfl rfl (by decide +kernel) ⟨Nat.le_of_ble_eq_true rfl, Nat.le_of_ble_eq_true rfl⟩) ⟨preW_blind, (va_recv hK hPc (ci := 4) (q0 := 0) rfl rfl), preW_start hPc hK hDc hNF⟩ rfl rfl hl.1 rfl (lv_room (Nat.le_of_ble_eq_true rfl)) dX4_count_2 ⟨(Nat.zero_le _), (Nat.zero_le _)⟩) hS (fun q _ h => hFc q h) hFc (fun rf1 u9 t9 H1 locs ht9 hv9 hw hB9 hz9 hk9 hS => ?_)
  obtain ⟨⟩ := u9
  obtain ⟨hP1, hD1⟩ := hB9
  rw [ht9] at hP1
  obtain ⟨hP, hD⟩ := va_join (wr := [((am 10), aI q 6 Li)]) (w1 := [(om, .inr (4, [.int th, .int sa, .ref (am 0), .ref (am 1), .double mi, .ref (am 2), .ref (am 3), .ref (am 4), .int (nI nf), .ref (am 5), .ref (am 6), .ref (am 7), .ref (am 8), .ref (am 9), .ref (am 10), .ref (am 11), .ref (am 12), .ref (am 13), .ref (am 14), .ref (am 15), .ref (am 16), .ref (am 17), .ref (am 18), .ref (am 19)]))]) hP hD [0] [1] rfl rfl (by decide) (by decide) hk9 hFc hP1 hD1
  generalize H1 = H at hP hS ⊢
  have hP : va_P G vwCl [((am 10), aI q 6 Li), (om, .inr (4, [.int th, .int sa, .ref (am 0), .ref (am 1), .double mi, .ref (am 2), .ref (am 3), .ref (am 4), .int (nI nf), .ref (am 5), .ref (am 6), .ref (am 7), .ref (am 8), .ref (am 9), .ref (am 10), .ref (am 11), .ref (am 12), .ref (am 13), .ref (am 14), .ref (am 15), .ref (am 16), .ref (am 17), .ref (am 18), .ref (am 19)]))] H := hP
  have hD : va_D A [((am 10), aI q 6 Li), (om, .inr (4, [.int th, .int sa, .ref (am 0), .ref (am 1), .double mi, .ref (am 2), .ref (am 3), .ref (am 4), .int (nI nf), .ref (am 5), .ref (am 6), .ref (am 7), .ref (am 8), .ref (am 9), .ref (am 10), .ref (am 11), .ref (am 12), .ref (am 13), .ref (am 14), .ref (am 15), .ref (am 16), .ref (am 17), .ref (am 18), .ref (am 19)]))] := hD
  obtain rfl : rf1 = 1 := hw.trans (if_pos (m1_in (by omega) hfx))
  refine lv_istore_n (lv' := [(3, .int 1), (0, .ref om), (1, .int (nI fx)), (2, .int 3)]) hx hb dX4_count_5 rfl hl (by decide) rfl (fun ls hl => ?_)
  refine lv_aload_n hx hb dX4_count_6 rfl (lv_at hl 1 rfl) ?_
  refine lv_iload_n hx hb dX4_count_7 rfl (lv_at hl 0 rfl) ?_
  refine lv_if_ne (tgt := 15) hx hb dX4_count_8 (by decide) (fun _ => ?_) (fun h => absurd h (by decide))
  refine lv_iload_n hx hb dX4_count_15 rfl (lv_at hl 3 rfl) ?_
  refine lv_iconst (v := 0) hx hb dX4_count_16 (by decide) ?_
  refine lv_iconst (v := 3) hx hb dX4_count_17 (by decide) ?_
  have hPc := hP.sub (ws' := []) [] rfl
  have hDc := hD.sub (ws' := []) [] (by decide) rfl
  have hFc := va_free (wc := []) hD hS hA [] rfl
  refine va_calli (va_runS (As := [.int 3, .int 0, .int 3]) (rest := [.ref om]) ⟨hx, hb, hml, hown, hts⟩ (m_X4_in l G q H.size 3 0 3) (va_cwS 3 hts gX4_count_X4_in rfl rfl rfl (by decide +kernel) ⟨Nat.le_of_ble_eq_true rfl, Nat.le_of_ble_eq_true rfl⟩) ⟨preW_blind, preW_start hPc hK hDc hNF⟩ rfl rfl hl.1 rfl (lv_room (Nat.le_of_ble_eq_true rfl)) dX4_count_18 ⟨(Nat.zero_le _), (Nat.zero_le _)⟩) hS (fun q _ h => hFc q h) hFc (fun ri4 u9 t9 H1 locs ht9 hv9 hw hB9 hz9 hk9 hS => ?_)
  obtain ⟨⟩ := u9
  obtain ⟨hP1, hD1⟩ := hB9
  rw [ht9] at hP1
  obtain ⟨hP, hD⟩ := va_join (wr := [((am 10), aI q 6 Li), (om, .inr (4, [.int th, .int sa, .ref (am 0), .ref (am 1), .double mi, .ref (am 2), .ref (am 3), .ref (am 4), .int (nI nf), .ref (am 5), .ref (am 6), .ref (am 7), .ref (am 8), .ref (am 9), .ref (am 10), .ref (am 11), .ref (am 12), .ref (am 13), .ref (am 14), .ref (am 15), .ref (am 16), .ref (am 17), .ref (am 18), .ref (am 19)]))]) (w1 := []) hP hD [] [0, 1] rfl rfl (by decide) (by decide) hk9 hFc hP1 hD1
  generalize H1 = H at hP hS ⊢
  have hP : va_P G vwCl [((am 10), aI q 6 Li), (om, .inr (4, [.int th, .int sa, .ref (am 0), .ref (am 1), .double mi, .ref (am 2), .ref (am 3), .ref (am 4), .int (nI nf), .ref (am 5), .ref (am 6), .ref (am 7), .ref (am 8), .ref (am 9), .ref (am 10), .ref (am 11), .ref (am 12), .ref (am 13), .ref (am 14), .ref (am 15), .ref (am 16), .ref (am 17), .ref (am 18), .ref (am 19)]))] H := hP
  have hD : va_D A [((am 10), aI q 6 Li), (om, .inr (4, [.int th, .int sa, .ref (am 0), .ref (am 1), .double mi, .ref (am 2), .ref (am 3), .ref (am 4), .int (nI nf), .ref (am 5), .ref (am 6), .ref (am 7), .ref (am 8), .ref (am 9), .ref (am 10), .ref (am 11), .ref (am 12), .ref (am 13), .ref (am 14), .ref (am 15), .ref (am 16), .ref (am 17), .ref (am 18), .ref (am 19)]))] := hD
  obtain rfl : ri4 = 1 := hw.trans (if_pos (by decide))
  refine lv_if_eq (tgt := 28) hx hb dX4_count_21 (by decide) (fun h => absurd h (by decide)) (fun _ => ?_)
  refine lv_iconst (v := 0) hx hb dX4_count_24 (by decide) ?_
  refine lv_goto (tgt := 29) hx hb dX4_count_25 (by decide) ?_
  have hPc := hP.sub (ws' := [(om, .inr (4, [.int th, .int sa, .ref (am 0), .ref (am 1), .double mi, .ref (am 2), .ref (am 3), .ref (am 4), .int (nI nf), .ref (am 5), .ref (am 6), .ref (am 7), .ref (am 8), .ref (am 9), .ref (am 10), .ref (am 11), .ref (am 12), .ref (am 13), .ref (am 14), .ref (am 15), .ref (am 16), .ref (am 17), .ref (am 18), .ref (am 19)]))]) [1] rfl
  have hDc := hD.sub (ws' := [(om, .inr (4, [.int th, .int sa, .ref (am 0), .ref (am 1), .double mi, .ref (am 2), .ref (am 3), .ref (am 4), .int (nI nf), .ref (am 5), .ref (am 6), .ref (am 7), .ref (am 8), .ref (am 9), .ref (am 10), .ref (am 11), .ref (am 12), .ref (am 13), .ref (am 14), .ref (am 15), .ref (am 16), .ref (am 17), .ref (am 18), .ref (am 19)]))]) [1] (by decide) rfl
  have hFc := va_free (wc := [(om, .inr (4, [.int th, .int sa, .ref (am 0), .ref (am 1), .double mi, .ref (am 2), .ref (am 3), .ref (am 4), .int (nI nf), .ref (am 5), .ref (am 6), .ref (am 7), .ref (am 8), .ref (am 9), .ref (am 10), .ref (am 11), .ref (am 12), .ref (am 13), .ref (am 14), .ref (am 15), .ref (am 16), .ref (am 17), .ref (am 18), .ref (am 19)]))]) hD hS hA [1] rfl
  refine va_calli (va_runV (As := [.int 0]) (rest := []) ⟨hx, hb, hml, hown, hts⟩ (m_X4_goesWell l G q H.size om am th sa (nI nf) mi 0) (cwV 1 hts gX4_count_X4_goesWell rfl rfl rfl (by decide +kernel) ⟨Nat.le_of_ble_eq_true rfl, Nat.le_of_ble_eq_true rfl⟩) ⟨preW_blind, (va_recv hK hPc (ci := 4) (q0 := 0) rfl rfl), preW_start hPc hK hDc hNF⟩ rfl rfl hl.1 rfl (lv_room (Nat.le_of_ble_eq_true rfl)) dX4_count_29 ⟨(Nat.zero_le _), (Nat.zero_le _)⟩) hS (fun q _ h => hFc q h) hFc (fun gr7 u9 t9 H1 locs ht9 hv9 hw hB9 hz9 hk9 hS => ?_)
  obtain ⟨⟩ := u9
  obtain ⟨hP1, hD1⟩ := hB9
  rw [ht9] at hP1
  obtain ⟨hP, hD⟩ := va_join (wr := [((am 10), aI q 6 Li)]) (w1 := [(om, .inr (4, [.int 0, .int sa, .ref (am 0), .ref (am 1), .double mi, .ref (am 2), .ref (am 3), .ref (am 4), .int (nI nf), .ref (am 5), .ref (am 6), .ref (am 7), .ref (am 8), .ref (am 9), .ref (am 10), .ref (am 11), .ref (am 12), .ref (am 13), .ref (am 14), .ref (am 15), .ref (am 16), .ref (am 17), .ref (am 18), .ref (am 19)]))]) hP hD [1] [0] rfl rfl (by decide) (by decide) hk9 hFc hP1 hD1
  generalize H1 = H at hP hS ⊢
  have hP : va_P G vwCl [((am 10), aI q 6 Li), (om, .inr (4, [.int 0, .int sa, .ref (am 0), .ref (am 1), .double mi, .ref (am 2), .ref (am 3), .ref (am 4), .int (nI nf), .ref (am 5), .ref (am 6), .ref (am 7), .ref (am 8), .ref (am 9), .ref (am 10), .ref (am 11), .ref (am 12), .ref (am 13), .ref (am 14), .ref (am 15), .ref (am 16), .ref (am 17), .ref (am 18), .ref (am 19)]))] H := hP
  have hD : va_D A [((am 10), aI q 6 Li), (om, .inr (4, [.int 0, .int sa, .ref (am 0), .ref (am 1), .double mi, .ref (am 2), .ref (am 3), .ref (am 4), .int (nI nf), .ref (am 5), .ref (am 6), .ref (am 7), .ref (am 8), .ref (am 9), .ref (am 10), .ref (am 11), .ref (am 12), .ref (am 13), .ref (am 14), .ref (am 15), .ref (am 16), .ref (am 17), .ref (am 18), .ref (am 19)]))] := hD
  obtain rfl : gr7 = 1 := hw.trans (by decide)
  refine lv_if_ne (tgt := 37) hx hb dX4_count_32 (by decide) (fun _ => ?_) (fun h => absurd h (by decide))
  refine lv_iload_n hx hb dX4_count_37 rfl (lv_at hl 3 rfl) ?_
  refine lv_if_ne (tgt := 50) hx hb dX4_count_38 (by decide) (fun _ => ?_) (fun h => absurd h (by decide))
  refine lv_iload_n hx hb dX4_count_50 rfl (lv_at hl 3 rfl) ?_
  refine lv_iconst (v := 1) hx hb dX4_count_51 (by decide) ?_
  refine lv_icmp_ne (tgt := 64) hx hb dX4_count_52 (by decide) (fun _ => ?_) (fun h => absurd h (by decide))
  refine lv_iload_n hx hb dX4_count_64 rfl (lv_at hl 3 rfl) ?_
  refine lv_iconst (v := 2) hx hb dX4_count_65 (by decide) ?_
  refine lv_icmp_ne (tgt := 78) hx hb dX4_count_66 (by decide) (fun _ => ?_) (fun h => absurd h (by decide))
  refine lv_aload_n hx hb dX4_count_78 rfl (lv_at hl 1 rfl) ?_
  refine va_get (D := G) (ci := 4) (v := .ref (am 10)) (C := RX4) (T := TX4) (N := 24) hx hb hts in_X4_count_X4 hown hK hP 1 rfl rfl 14 (by decide) (hts (.fieldLink RX4 41 "EchoBenchModel" "left" "[I") (by decide +kernel)) (fun _ h9 => h9) rfl dX4_count_79 ?_
  refine lv_iload_n hx hb dX4_count_82 rfl (lv_at hl 2 rfl) ?_
  refine va_ialdJ hx hb hK hP 0 0 rfl rfl (j := fx) rfl (by omega) (by decide) dX4_count_83 ?_
  have hP := hP.sub (ws' := [(om, .inr (4, [.int 0, .int sa, .ref (am 0), .ref (am 1), .double mi, .ref (am 2), .ref (am 3), .ref (am 4), .int (nI nf), .ref (am 5), .ref (am 6), .ref (am 7), .ref (am 8), .ref (am 9), .ref (am 10), .ref (am 11), .ref (am 12), .ref (am 13), .ref (am 14), .ref (am 15), .ref (am 16), .ref (am 17), .ref (am 18), .ref (am 19)])), ((am 10), aI q 6 Li)]) [1, 0] rfl
  have hD := hD.sub (ws' := [(om, .inr (4, [.int 0, .int sa, .ref (am 0), .ref (am 1), .double mi, .ref (am 2), .ref (am 3), .ref (am 4), .int (nI nf), .ref (am 5), .ref (am 6), .ref (am 7), .ref (am 8), .ref (am 9), .ref (am 10), .ref (am 11), .ref (am 12), .ref (am 13), .ref (am 14), .ref (am 15), .ref (am 16), .ref (am 17), .ref (am 18), .ref (am 19)])), ((am 10), aI q 6 Li)]) [1, 0] (by decide) rfl
  have hP9 := hP
  have hD9 := hD
  exact W.iret (v := Li fx) hx hb hr (fun t ht hW => ⟨⟨Li fx, (), rfl, rfl, by rw [ht]; exact hP9, hD9⟩, hS.F ht⟩) hS.2.2 dX4_count_84

theorem in_X4_of_X4 : ∀ w ∈ wsX40, w ∈ wsX4_of := by decide +kernel
set_option maxHeartbeats 4000000 in
set_option maxRecDepth 100000 in
/-- of -/
theorem m_X4_of0 (l : Launch) (G : va_G) (q : Nat → ClassId) (sz : Nat) (om : Nat) (am : Nat → Nat) (th sa : Int32) (mi : UInt64) (nf : Nat) (fx : Nat) (Ou : Nat → UInt64) (hnf : nf ≤ 6) (hfx : fx < nf) : Met l yX4_of wsX4_of ({ frames := 2, cells := 0, slots := 0, locals := 43 } : Jvm.Room) (PreW G q [.ref om, .int (nI fx), .int 0] [(om, .inr (4, [.int th, .int sa, .ref (am 0), .ref (am 1), .double mi, .ref (am 2), .ref (am 3), .ref (am 4), .int (nI nf), .ref (am 5), .ref (am 6), .ref (am 7), .ref (am 8), .ref (am 9), .ref (am 10), .ref (am 11), .ref (am 12), .ref (am 13), .ref (am 14), .ref (am 15), .ref (am 16), .ref (am 17), .ref (am 18), .ref (am 19)])), ((am 15), aD q 6 Ou)] sz) (va_Qd (fun (r : UInt64) (_ : Unit) => r = Ou fx) (fun (_ : Unit) t => EndA G (va_A [(om, .inr (4, [.int th, .int sa, .ref (am 0), .ref (am 1), .double mi, .ref (am 2), .ref (am 3), .ref (am 4), .int (nI nf), .ref (am 5), .ref (am 6), .ref (am 7), .ref (am 8), .ref (am 9), .ref (am 10), .ref (am 11), .ref (am 12), .ref (am 13), .ref (am 14), .ref (am 15), .ref (am 16), .ref (am 17), .ref (am 18), .ref (am 19)])), ((am 15), aD q 6 Ou)] sz) [(om, .inr (4, [.int 0, .int sa, .ref (am 0), .ref (am 1), .double mi, .ref (am 2), .ref (am 3), .ref (am 4), .int (nI nf), .ref (am 5), .ref (am 6), .ref (am 7), .ref (am 8), .ref (am 9), .ref (am 10), .ref (am 11), .ref (am 12), .ref (am 13), .ref (am 14), .ref (am 15), .ref (am 16), .ref (am 17), .ref (am 18), .ref (am 19)])), ((am 15), aD q 6 Ou)] t) (va_A [(om, .inr (4, [.int th, .int sa, .ref (am 0), .ref (am 1), .double mi, .ref (am 2), .ref (am 3), .ref (am 4), .int (nI nf), .ref (am 5), .ref (am 6), .ref (am 7), .ref (am 8), .ref (am 9), .ref (am 10), .ref (am 11), .ref (am 12), .ref (am 13), .ref (am 14), .ref (am 15), .ref (am 16), .ref (am 17), .ref (am 18), .ref (am 19)])), ((am 15), aD q 6 Ou)] sz)) 0 0 (va_A [(om, .inr (4, [.int th, .int sa, .ref (am 0), .ref (am 1), .double mi, .ref (am 2), .ref (am 3), .ref (am 4), .int (nI nf), .ref (am 5), .ref (am 6), .ref (am 7), .ref (am 8), .ref (am 9), .ref (am 10), .ref (am 11), .ref (am 12), .ref (am 13), .ref (am 14), .ref (am 15), .ref (am 16), .ref (am 17), .ref (am 18), .ref (am 19)])), ((am 15), aD q 6 Ou)] sz) := by
  refine Met.ofW (cc := cX4_of) (maxL := 4) (ret := (some .double)) (by decide +kernel) rfl ?_
  intro p e s m args below meth c s₁ B hml hv
  obtain ⟨rfl, hsz, hP, hK, hD0, hNF⟩ := hv
  have hx := B.exec
  have hb := B.bytes
  have hr := B.returns
  have hts := atoms_spec (ws := wsX4_of) B.pre
  have hown : s.vm.findClass RX4 = some m.cls := findClass_of_methodNamed B.named
  have hlocks := B.notSynchronized
  subst hsz
  have hD := hD0.self (sz := s.heap.size)
  generalize hAe : va_A [(om, .inr (4, [.int th, .int sa, .ref (am 0), .ref (am 1), .double mi, .ref (am 2), .ref (am 3), .ref (am 4), .int (nI nf), .ref (am 5), .ref (am 6), .ref (am 7), .ref (am 8), .ref (am 9), .ref (am 10), .ref (am 11), .ref (am 12), .ref (am 13), .ref (am 14), .ref (am 15), .ref (am 16), .ref (am 17), .ref (am 18), .ref (am 19)])), ((am 15), aD q 6 Ou)] s.heap.size = A at hD ⊢
  have hA : ∀ q : Nat, s.heap.size ≤ q → A q := fun q h => by rw [← hAe]; exact Or.inr h
  have hS : va_S A s.heap s.heap [] := va_S.rf
  have hP : va_P G vwCl [(om, .inr (4, [.int th, .int sa, .ref (am 0), .ref (am 1), .double mi, .ref (am 2), .ref (am 3), .ref (am 4), .int (nI nf), .ref (am 5), .ref (am 6), .ref (am 7), .ref (am 8), .ref (am 9), .ref (am 10), .ref (am 11), .ref (am 12), .ref (am 13), .ref (am 14), .ref (am 15), .ref (am 16), .ref (am 17), .ref (am 18), .ref (am 19)])), ((am 15), aD q 6 Ou)] s.heap := hP
  have hl := lv_entry ([.ref om, .int (nI fx), .int 0]) (n := 4) (Nat.le_of_ble_eq_true rfl)
  rw [lg_entry_eq]
  generalize (lg_sl ([.ref om, .int (nI fx), .int 0]) ++ List.replicate (4 - (lg_sl ([.ref om, .int (nI fx), .int 0])).length) Slot.unset).toArray = ls at hl ⊢
  have hl : lv_has ls 4 [(0, .ref om), (1, .int (nI fx)), (2, .int 0)] := hl
  refine lv_aload_n hx hb dX4_of_0 rfl (lv_at hl 0 rfl) ?_
  refine lv_iload_n hx hb dX4_of_1 rfl (lv_at hl 1 rfl) ?_
  have hPc := hP.sub (ws' := [(om, .inr (4, [.int th, .int sa, .ref (am 0), .ref (am 1), .double mi, .ref (am 2), .ref (am 3), .ref (am 4), .int (nI nf), .ref (am 5), .ref (am 6), .ref (am 7), .ref (am 8), .ref (am 9), .ref (am 10), .ref (am 11), .ref (am 12), .ref (am 13), .ref (am 14), .ref (am 15), .ref (am 16), .ref (am 17), .ref (am 18), .ref (am 19)]))]) [0] rfl
  have hDc := hD.sub (ws' := [(om, .inr (4, [.int th, .int sa, .ref (am 0), .ref (am 1), .double mi, .ref (am 2), .ref (am 3), .ref (am 4), .int (nI nf), .ref (am 5), .ref (am 6), .ref (am 7), .ref (am 8), .ref (am 9), .ref (am 10), .ref (am 11), .ref (am 12), .ref (am 13), .ref (am 14), .ref (am 15), .ref (am 16), .ref (am 17), .ref (am 18), .ref (am 19)]))]) [0] (by decide) rfl
  have hFc := va_free (wc := [(om, .inr (4, [.int th, .int sa, .ref (am 0), .ref (am 1), .double mi, .ref (am 2), .ref (am 3), .ref (am 4), .int (nI nf), .ref (am 5), .ref (am 6), .ref (am 7), .ref (am 8), .ref (am 9), .ref (am 10), .ref (am 11), .ref (am 12), .ref (am 13), .ref (am 14), .ref (am 15), .ref (am 16), .ref (am 17), .ref (am 18), .ref (am 19)]))]) hD hS hA [0] rfl
  refine va_calli (va_runV (As := [.int (nI fx)]) (rest := []) ⟨hx, hb, hml, hown, hts⟩ (m_X4_isFilter l G q s.heap.size om am th sa (nI nf) mi (nI fx)) (cwV 1 hts gX4_of_X4_isFilter rfl rfl rfl (by decide +kernel) ⟨Nat.le_of_ble_eq_true rfl, Nat.le_of_ble_eq_true rfl⟩) ⟨preW_blind, (va_recv hK hPc (ci := 4) (q0 := 0) rfl rfl), preW_start hPc hK hDc hNF⟩ rfl rfl hl.1 rfl (lv_room (Nat.le_of_ble_eq_true rfl)) dX4_of_2 ⟨(Nat.zero_le _), (Nat.zero_le _)⟩) hS (fun q _ h => hFc q h) hFc (fun rf1 u9 t9 H1 locs ht9 hv9 hw hB9 hz9 hk9 hS => ?_)
  obtain ⟨⟩ := u9
  obtain ⟨hP1, hD1⟩ := hB9
  rw [ht9] at hP1
  obtain ⟨hP, hD⟩ := va_join (wr := [((am 15), aD q 6 Ou)]) (w1 := [(om, .inr (4, [.int th, .int sa, .ref (am 0), .ref (am 1), .double mi, .ref (am 2), .ref (am 3), .ref (am 4), .int (nI nf), .ref (am 5), .ref (am 6), .ref (am 7), .ref (am 8), .ref (am 9), .ref (am 10), .ref (am 11), .ref (am 12), .ref (am 13), .ref (am 14), .ref (am 15), .ref (am 16), .ref (am 17), .ref (am 18), .ref (am 19)]))]) hP hD [0] [1] rfl rfl (by decide) (by decide) hk9 hFc hP1 hD1
  generalize H1 = H at hP hS ⊢
  have hP : va_P G vwCl [((am 15), aD q 6 Ou), (om, .inr (4, [.int th, .int sa, .ref (am 0), .ref (am 1), .double mi, .ref (am 2), .ref (am 3), .ref (am 4), .int (nI nf), .ref (am 5), .ref (am 6), .ref (am 7), .ref (am 8), .ref (am 9), .ref (am 10), .ref (am 11), .ref (am 12), .ref (am 13), .ref (am 14), .ref (am 15), .ref (am 16), .ref (am 17), .ref (am 18), .ref (am 19)]))] H := hP
  have hD : va_D A [((am 15), aD q 6 Ou), (om, .inr (4, [.int th, .int sa, .ref (am 0), .ref (am 1), .double mi, .ref (am 2), .ref (am 3), .ref (am 4), .int (nI nf), .ref (am 5), .ref (am 6), .ref (am 7), .ref (am 8), .ref (am 9), .ref (am 10), .ref (am 11), .ref (am 12), .ref (am 13), .ref (am 14), .ref (am 15), .ref (am 16), .ref (am 17), .ref (am 18), .ref (am 19)]))] := hD
  obtain rfl : rf1 = 1 := hw.trans (if_pos (m1_in (by omega) hfx))
  refine lv_istore_n (lv' := [(3, .int 1), (0, .ref om), (1, .int (nI fx)), (2, .int 0)]) hx hb dX4_of_5 rfl hl (by decide) rfl (fun ls hl => ?_)
  refine lv_aload_n hx hb dX4_of_6 rfl (lv_at hl 1 rfl) ?_
  refine lv_iload_n hx hb dX4_of_7 rfl (lv_at hl 0 rfl) ?_
  refine lv_if_ne (tgt := 15) hx hb dX4_of_8 (by decide) (fun _ => ?_) (fun h => absurd h (by decide))
  refine lv_iload_n hx hb dX4_of_15 rfl (lv_at hl 3 rfl) ?_
  refine lv_iconst (v := 0) hx hb dX4_of_16 (by decide) ?_
  refine lv_iconst (v := 3) hx hb dX4_of_17 (by decide) ?_
  have hPc := hP.sub (ws' := []) [] rfl
  have hDc := hD.sub (ws' := []) [] (by decide) rfl
  have hFc := va_free (wc := []) hD hS hA [] rfl
  refine va_calli (va_runS (As := [.int 0, .int 0, .int 3]) (rest := [.ref om]) ⟨hx, hb, hml, hown, hts⟩ (m_X4_in l G q H.size 0 0 3) (va_cwS 3 hts gX4_of_X4_in rfl rfl rfl (by decide +kernel) ⟨Nat.le_of_ble_eq_true rfl, Nat.le_of_ble_eq_true rfl⟩) ⟨preW_blind, preW_start hPc hK hDc hNF⟩ rfl rfl hl.1 rfl (lv_room (Nat.le_of_ble_eq_true rfl)) dX4_of_18 ⟨(Nat.zero_le _), (Nat.zero_le _)⟩) hS (fun q _ h => hFc q h) hFc (fun ri4 u9 t9 H1 locs ht9 hv9 hw hB9 hz9 hk9 hS => ?_)
  obtain ⟨⟩ := u9
  obtain ⟨hP1, hD1⟩ := hB9
  rw [ht9] at hP1
  obtain ⟨hP, hD⟩ := va_join (wr := [((am 15), aD q 6 Ou), (om, .inr (4, [.int th, .int sa, .ref (am 0), .ref (am 1), .double mi, .ref (am 2), .ref (am 3), .ref (am 4), .int (nI nf), .ref (am 5), .ref (am 6), .ref (am 7), .ref (am 8), .ref (am 9), .ref (am 10), .ref (am 11), .ref (am 12), .ref (am 13), .ref (am 14), .ref (am 15), .ref (am 16), .ref (am 17), .ref (am 18), .ref (am 19)]))]) (w1 := []) hP hD [] [0, 1] rfl rfl (by decide) (by decide) hk9 hFc hP1 hD1
  generalize H1 = H at hP hS ⊢
  have hP : va_P G vwCl [((am 15), aD q 6 Ou), (om, .inr (4, [.int th, .int sa, .ref (am 0), .ref (am 1), .double mi, .ref (am 2), .ref (am 3), .ref (am 4), .int (nI nf), .ref (am 5), .ref (am 6), .ref (am 7), .ref (am 8), .ref (am 9), .ref (am 10), .ref (am 11), .ref (am 12), .ref (am 13), .ref (am 14), .ref (am 15), .ref (am 16), .ref (am 17), .ref (am 18), .ref (am 19)]))] H := hP
  have hD : va_D A [((am 15), aD q 6 Ou), (om, .inr (4, [.int th, .int sa, .ref (am 0), .ref (am 1), .double mi, .ref (am 2), .ref (am 3), .ref (am 4), .int (nI nf), .ref (am 5), .ref (am 6), .ref (am 7), .ref (am 8), .ref (am 9), .ref (am 10), .ref (am 11), .ref (am 12), .ref (am 13), .ref (am 14), .ref (am 15), .ref (am 16), .ref (am 17), .ref (am 18), .ref (am 19)]))] := hD
  obtain rfl : ri4 = 1 := hw.trans (if_pos (by decide))
  refine lv_if_eq (tgt := 28) hx hb dX4_of_21 (by decide) (fun h => absurd h (by decide)) (fun _ => ?_)
  refine lv_iconst (v := 0) hx hb dX4_of_24 (by decide) ?_
  refine lv_goto (tgt := 29) hx hb dX4_of_25 (by decide) ?_
  have hPc := hP.sub (ws' := [(om, .inr (4, [.int th, .int sa, .ref (am 0), .ref (am 1), .double mi, .ref (am 2), .ref (am 3), .ref (am 4), .int (nI nf), .ref (am 5), .ref (am 6), .ref (am 7), .ref (am 8), .ref (am 9), .ref (am 10), .ref (am 11), .ref (am 12), .ref (am 13), .ref (am 14), .ref (am 15), .ref (am 16), .ref (am 17), .ref (am 18), .ref (am 19)]))]) [1] rfl
  have hDc := hD.sub (ws' := [(om, .inr (4, [.int th, .int sa, .ref (am 0), .ref (am 1), .double mi, .ref (am 2), .ref (am 3), .ref (am 4), .int (nI nf), .ref (am 5), .ref (am 6), .ref (am 7), .ref (am 8), .ref (am 9), .ref (am 10), .ref (am 11), .ref (am 12), .ref (am 13), .ref (am 14), .ref (am 15), .ref (am 16), .ref (am 17), .ref (am 18), .ref (am 19)]))]) [1] (by decide) rfl
  have hFc := va_free (wc := [(om, .inr (4, [.int th, .int sa, .ref (am 0), .ref (am 1), .double mi, .ref (am 2), .ref (am 3), .ref (am 4), .int (nI nf), .ref (am 5), .ref (am 6), .ref (am 7), .ref (am 8), .ref (am 9), .ref (am 10), .ref (am 11), .ref (am 12), .ref (am 13), .ref (am 14), .ref (am 15), .ref (am 16), .ref (am 17), .ref (am 18), .ref (am 19)]))]) hD hS hA [1] rfl
  refine va_calli (va_runV (As := [.int 0]) (rest := []) ⟨hx, hb, hml, hown, hts⟩ (m_X4_goesWell l G q H.size om am th sa (nI nf) mi 0) (cwV 1 hts gX4_of_X4_goesWell rfl rfl rfl (by decide +kernel) ⟨Nat.le_of_ble_eq_true rfl, Nat.le_of_ble_eq_true rfl⟩) ⟨preW_blind, (va_recv hK hPc (ci := 4) (q0 := 0) rfl rfl), preW_start hPc hK hDc hNF⟩ rfl rfl hl.1 rfl (lv_room (Nat.le_of_ble_eq_true rfl)) dX4_of_29 ⟨(Nat.zero_le _), (Nat.zero_le _)⟩) hS (fun q _ h => hFc q h) hFc (fun gr7 u9 t9 H1 locs ht9 hv9 hw hB9 hz9 hk9 hS => ?_)
  obtain ⟨⟩ := u9
  obtain ⟨hP1, hD1⟩ := hB9
  rw [ht9] at hP1
  obtain ⟨hP, hD⟩ := va_join (wr := [((am 15), aD q 6 Ou)]) (w1 := [(om, .inr (4, [.int 0, .int sa, .ref (am 0), .ref (am 1), .double mi, .ref (am 2), .ref (am 3), .ref (am 4), .int (nI nf), .ref (am 5), .ref (am 6), .ref (am 7), .ref (am 8), .ref (am 9), .ref (am 10), .ref (am 11), .ref (am 12), .ref (am 13), .ref (am 14), .ref (am 15), .ref (am 16), .ref (am 17), .ref (am 18), .ref (am 19)]))]) hP hD [1] [0] rfl rfl (by decide) (by decide) hk9 hFc hP1 hD1
  generalize H1 = H at hP hS ⊢
  have hP : va_P G vwCl [((am 15), aD q 6 Ou), (om, .inr (4, [.int 0, .int sa, .ref (am 0), .ref (am 1), .double mi, .ref (am 2), .ref (am 3), .ref (am 4), .int (nI nf), .ref (am 5), .ref (am 6), .ref (am 7), .ref (am 8), .ref (am 9), .ref (am 10), .ref (am 11), .ref (am 12), .ref (am 13), .ref (am 14), .ref (am 15), .ref (am 16), .ref (am 17), .ref (am 18), .ref (am 19)]))] H := hP
  have hD : va_D A [((am 15), aD q 6 Ou), (om, .inr (4, [.int 0, .int sa, .ref (am 0), .ref (am 1), .double mi, .ref (am 2), .ref (am 3), .ref (am 4), .int (nI nf), .ref (am 5), .ref (am 6), .ref (am 7), .ref (am 8), .ref (am 9), .ref (am 10), .ref (am 11), .ref (am 12), .ref (am 13), .ref (am 14), .ref (am 15), .ref (am 16), .ref (am 17), .ref (am 18), .ref (am 19)]))] := hD
  obtain rfl : gr7 = 1 := hw.trans (by decide)
  refine lv_if_ne (tgt := 37) hx hb dX4_of_32 (by decide) (fun _ => ?_) (fun h => absurd h (by decide))
  refine lv_iload_n hx hb dX4_of_37 rfl (lv_at hl 3 rfl) ?_
  refine lv_if_ne (tgt := 50) hx hb dX4_of_38 (by decide) (fun h => absurd (by decide) h) (fun _ => ?_)
  refine lv_aload_n hx hb dX4_of_41 rfl (lv_at hl 1 rfl) ?_
  refine va_get (D := G) (ci := 4) (v := .ref (am 15)) (C := RX4) (T := TX4) (N := 24) hx hb hts in_X4_of_X4 hown hK hP 1 rfl rfl 19 (by decide) (hts (.fieldLink RX4 56 "EchoBenchModel" "output" "[D") (by decide +kernel)) (fun _ h9 => h9) rfl dX4_of_42 ?_
  refine lv_iload_n hx hb dX4_of_45 rfl (lv_at hl 2 rfl) ?_
  refine va_daldJ hx hb hK hP 0 1 rfl rfl (j := fx) rfl (by omega) (by decide) dX4_of_46 ?_
  refine lv_goto (tgt := 82) hx hb dX4_of_47 (by decide) ?_
  have hP := hP.sub (ws' := [(om, .inr (4, [.int 0, .int sa, .ref (am 0), .ref (am 1), .double mi, .ref (am 2), .ref (am 3), .ref (am 4), .int (nI nf), .ref (am 5), .ref (am 6), .ref (am 7), .ref (am 8), .ref (am 9), .ref (am 10), .ref (am 11), .ref (am 12), .ref (am 13), .ref (am 14), .ref (am 15), .ref (am 16), .ref (am 17), .ref (am 18), .ref (am 19)])), ((am 15), aD q 6 Ou)]) [1, 0] rfl
  have hD := hD.sub (ws' := [(om, .inr (4, [.int 0, .int sa, .ref (am 0), .ref (am 1), .double mi, .ref (am 2), .ref (am 3), .ref (am 4), .int (nI nf), .ref (am 5), .ref (am 6), .ref (am 7), .ref (am 8), .ref (am 9), .ref (am 10), .ref (am 11), .ref (am 12), .ref (am 13), .ref (am 14), .ref (am 15), .ref (am 16), .ref (am 17), .ref (am 18), .ref (am 19)])), ((am 15), aD q 6 Ou)]) [1, 0] (by decide) rfl
  have hP9 := hP
  have hD9 := hD
  exact W.dret (v := Ou fx) hx hb hr (fun t ht hW => ⟨⟨Ou fx, (), rfl, rfl, by rw [ht]; exact hP9, hD9⟩, hS.F ht⟩) hS.2.2 dX4_of_82

set_option maxHeartbeats 4000000 in
set_option maxRecDepth 100000 in
/-- of -/
theorem m_X4_of1 (l : Launch) (G : va_G) (q : Nat → ClassId) (sz : Nat) (om : Nat) (am : Nat → Nat) (th sa : Int32) (mi : UInt64) (nf : Nat) (fx : Nat) (Er : Nat → UInt64) (hnf : nf ≤ 6) (hfx : fx < nf) : Met l yX4_of wsX4_of ({ frames := 2, cells := 0, slots := 0, locals := 43 } : Jvm.Room) (PreW G q [.ref om, .int (nI fx), .int 1] [(om, .inr (4, [.int th, .int sa, .ref (am 0), .ref (am 1), .double mi, .ref (am 2), .ref (am 3), .ref (am 4), .int (nI nf), .ref (am 5), .ref (am 6), .ref (am 7), .ref (am 8), .ref (am 9), .ref (am 10), .ref (am 11), .ref (am 12), .ref (am 13), .ref (am 14), .ref (am 15), .ref (am 16), .ref (am 17), .ref (am 18), .ref (am 19)])), ((am 16), aD q 6 Er)] sz) (va_Qd (fun (r : UInt64) (_ : Unit) => r = Er fx) (fun (_ : Unit) t => EndA G (va_A [(om, .inr (4, [.int th, .int sa, .ref (am 0), .ref (am 1), .double mi, .ref (am 2), .ref (am 3), .ref (am 4), .int (nI nf), .ref (am 5), .ref (am 6), .ref (am 7), .ref (am 8), .ref (am 9), .ref (am 10), .ref (am 11), .ref (am 12), .ref (am 13), .ref (am 14), .ref (am 15), .ref (am 16), .ref (am 17), .ref (am 18), .ref (am 19)])), ((am 16), aD q 6 Er)] sz) [(om, .inr (4, [.int 0, .int sa, .ref (am 0), .ref (am 1), .double mi, .ref (am 2), .ref (am 3), .ref (am 4), .int (nI nf), .ref (am 5), .ref (am 6), .ref (am 7), .ref (am 8), .ref (am 9), .ref (am 10), .ref (am 11), .ref (am 12), .ref (am 13), .ref (am 14), .ref (am 15), .ref (am 16), .ref (am 17), .ref (am 18), .ref (am 19)])), ((am 16), aD q 6 Er)] t) (va_A [(om, .inr (4, [.int th, .int sa, .ref (am 0), .ref (am 1), .double mi, .ref (am 2), .ref (am 3), .ref (am 4), .int (nI nf), .ref (am 5), .ref (am 6), .ref (am 7), .ref (am 8), .ref (am 9), .ref (am 10), .ref (am 11), .ref (am 12), .ref (am 13), .ref (am 14), .ref (am 15), .ref (am 16), .ref (am 17), .ref (am 18), .ref (am 19)])), ((am 16), aD q 6 Er)] sz)) 0 0 (va_A [(om, .inr (4, [.int th, .int sa, .ref (am 0), .ref (am 1), .double mi, .ref (am 2), .ref (am 3), .ref (am 4), .int (nI nf), .ref (am 5), .ref (am 6), .ref (am 7), .ref (am 8), .ref (am 9), .ref (am 10), .ref (am 11), .ref (am 12), .ref (am 13), .ref (am 14), .ref (am 15), .ref (am 16), .ref (am 17), .ref (am 18), .ref (am 19)])), ((am 16), aD q 6 Er)] sz) := by
  refine Met.ofW (cc := cX4_of) (maxL := 4) (ret := (some .double)) (by decide +kernel) rfl ?_
  intro p e s m args below meth c s₁ B hml hv
  obtain ⟨rfl, hsz, hP, hK, hD0, hNF⟩ := hv
  have hx := B.exec
  have hb := B.bytes
  have hr := B.returns
  have hts := atoms_spec (ws := wsX4_of) B.pre
  have hown : s.vm.findClass RX4 = some m.cls := findClass_of_methodNamed B.named
  have hlocks := B.notSynchronized
  subst hsz
  have hD := hD0.self (sz := s.heap.size)
  generalize hAe : va_A [(om, .inr (4, [.int th, .int sa, .ref (am 0), .ref (am 1), .double mi, .ref (am 2), .ref (am 3), .ref (am 4), .int (nI nf), .ref (am 5), .ref (am 6), .ref (am 7), .ref (am 8), .ref (am 9), .ref (am 10), .ref (am 11), .ref (am 12), .ref (am 13), .ref (am 14), .ref (am 15), .ref (am 16), .ref (am 17), .ref (am 18), .ref (am 19)])), ((am 16), aD q 6 Er)] s.heap.size = A at hD ⊢
  have hA : ∀ q : Nat, s.heap.size ≤ q → A q := fun q h => by rw [← hAe]; exact Or.inr h
  have hS : va_S A s.heap s.heap [] := va_S.rf
  have hP : va_P G vwCl [(om, .inr (4, [.int th, .int sa, .ref (am 0), .ref (am 1), .double mi, .ref (am 2), .ref (am 3), .ref (am 4), .int (nI nf), .ref (am 5), .ref (am 6), .ref (am 7), .ref (am 8), .ref (am 9), .ref (am 10), .ref (am 11), .ref (am 12), .ref (am 13), .ref (am 14), .ref (am 15), .ref (am 16), .ref (am 17), .ref (am 18), .ref (am 19)])), ((am 16), aD q 6 Er)] s.heap := hP
  have hl := lv_entry ([.ref om, .int (nI fx), .int 1]) (n := 4) (Nat.le_of_ble_eq_true rfl)
  rw [lg_entry_eq]
  generalize (lg_sl ([.ref om, .int (nI fx), .int 1]) ++ List.replicate (4 - (lg_sl ([.ref om, .int (nI fx), .int 1])).length) Slot.unset).toArray = ls at hl ⊢
  have hl : lv_has ls 4 [(0, .ref om), (1, .int (nI fx)), (2, .int 1)] := hl
  refine lv_aload_n hx hb dX4_of_0 rfl (lv_at hl 0 rfl) ?_
  refine lv_iload_n hx hb dX4_of_1 rfl (lv_at hl 1 rfl) ?_
  have hPc := hP.sub (ws' := [(om, .inr (4, [.int th, .int sa, .ref (am 0), .ref (am 1), .double mi, .ref (am 2), .ref (am 3), .ref (am 4), .int (nI nf), .ref (am 5), .ref (am 6), .ref (am 7), .ref (am 8), .ref (am 9), .ref (am 10), .ref (am 11), .ref (am 12), .ref (am 13), .ref (am 14), .ref (am 15), .ref (am 16), .ref (am 17), .ref (am 18), .ref (am 19)]))]) [0] rfl
  have hDc := hD.sub (ws' := [(om, .inr (4, [.int th, .int sa, .ref (am 0), .ref (am 1), .double mi, .ref (am 2), .ref (am 3), .ref (am 4), .int (nI nf), .ref (am 5), .ref (am 6), .ref (am 7), .ref (am 8), .ref (am 9), .ref (am 10), .ref (am 11), .ref (am 12), .ref (am 13), .ref (am 14), .ref (am 15), .ref (am 16), .ref (am 17), .ref (am 18), .ref (am 19)]))]) [0] (by decide) rfl
  have hFc := va_free (wc := [(om, .inr (4, [.int th, .int sa, .ref (am 0), .ref (am 1), .double mi, .ref (am 2), .ref (am 3), .ref (am 4), .int (nI nf), .ref (am 5), .ref (am 6), .ref (am 7), .ref (am 8), .ref (am 9), .ref (am 10), .ref (am 11), .ref (am 12), .ref (am 13), .ref (am 14), .ref (am 15), .ref (am 16), .ref (am 17), .ref (am 18), .ref (am 19)]))]) hD hS hA [0] rfl
  refine va_calli (va_runV (As := [.int (nI fx)]) (rest := []) ⟨hx, hb, hml, hown, hts⟩ (m_X4_isFilter l G q s.heap.size om am th sa (nI nf) mi (nI fx)) (cwV 1 hts gX4_of_X4_isFilter rfl rfl rfl (by decide +kernel) ⟨Nat.le_of_ble_eq_true rfl, Nat.le_of_ble_eq_true rfl⟩) ⟨preW_blind, (va_recv hK hPc (ci := 4) (q0 := 0) rfl rfl), preW_start hPc hK hDc hNF⟩ rfl rfl hl.1 rfl (lv_room (Nat.le_of_ble_eq_true rfl)) dX4_of_2 ⟨(Nat.zero_le _), (Nat.zero_le _)⟩) hS (fun q _ h => hFc q h) hFc (fun rf1 u9 t9 H1 locs ht9 hv9 hw hB9 hz9 hk9 hS => ?_)
  obtain ⟨⟩ := u9
  obtain ⟨hP1, hD1⟩ := hB9
  rw [ht9] at hP1
  obtain ⟨hP, hD⟩ := va_join (wr := [((am 16), aD q 6 Er)]) (w1 := [(om, .inr (4, [.int th, .int sa, .ref (am 0), .ref (am 1), .double mi, .ref (am 2), .ref (am 3), .ref (am 4), .int (nI nf), .ref (am 5), .ref (am 6), .ref (am 7), .ref (am 8), .ref (am 9), .ref (am 10), .ref (am 11), .ref (am 12), .ref (am 13), .ref (am 14), .ref (am 15), .ref (am 16), .ref (am 17), .ref (am 18), .ref (am 19)]))]) hP hD [0] [1] rfl rfl (by decide) (by decide) hk9 hFc hP1 hD1
  generalize H1 = H at hP hS ⊢
  have hP : va_P G vwCl [((am 16), aD q 6 Er), (om, .inr (4, [.int th, .int sa, .ref (am 0), .ref (am 1), .double mi, .ref (am 2), .ref (am 3), .ref (am 4), .int (nI nf), .ref (am 5), .ref (am 6), .ref (am 7), .ref (am 8), .ref (am 9), .ref (am 10), .ref (am 11), .ref (am 12), .ref (am 13), .ref (am 14), .ref (am 15), .ref (am 16), .ref (am 17), .ref (am 18), .ref (am 19)]))] H := hP
  have hD : va_D A [((am 16), aD q 6 Er), (om, .inr (4, [.int th, .int sa, .ref (am 0), .ref (am 1), .double mi, .ref (am 2), .ref (am 3), .ref (am 4), .int (nI nf), .ref (am 5), .ref (am 6), .ref (am 7), .ref (am 8), .ref (am 9), .ref (am 10), .ref (am 11), .ref (am 12), .ref (am 13), .ref (am 14), .ref (am 15), .ref (am 16), .ref (am 17), .ref (am 18), .ref (am 19)]))] := hD
  obtain rfl : rf1 = 1 := hw.trans (if_pos (m1_in (by omega) hfx))
  refine lv_istore_n (lv' := [(3, .int 1), (0, .ref om), (1, .int (nI fx)), (2, .int 1)]) hx hb dX4_of_5 rfl hl (by decide) rfl (fun ls hl => ?_)
  refine lv_aload_n hx hb dX4_of_6 rfl (lv_at hl 1 rfl) ?_
  refine lv_iload_n hx hb dX4_of_7 rfl (lv_at hl 0 rfl) ?_
  refine lv_if_ne (tgt := 15) hx hb dX4_of_8 (by decide) (fun _ => ?_) (fun h => absurd h (by decide))
  refine lv_iload_n hx hb dX4_of_15 rfl (lv_at hl 3 rfl) ?_
  refine lv_iconst (v := 0) hx hb dX4_of_16 (by decide) ?_
  refine lv_iconst (v := 3) hx hb dX4_of_17 (by decide) ?_
  have hPc := hP.sub (ws' := []) [] rfl
  have hDc := hD.sub (ws' := []) [] (by decide) rfl
  have hFc := va_free (wc := []) hD hS hA [] rfl
  refine va_calli (va_runS (As := [.int 1, .int 0, .int 3]) (rest := [.ref om]) ⟨hx, hb, hml, hown, hts⟩ (m_X4_in l G q H.size 1 0 3) (va_cwS 3 hts gX4_of_X4_in rfl rfl rfl (by decide +kernel) ⟨Nat.le_of_ble_eq_true rfl, Nat.le_of_ble_eq_true rfl⟩) ⟨preW_blind, preW_start hPc hK hDc hNF⟩ rfl rfl hl.1 rfl (lv_room (Nat.le_of_ble_eq_true rfl)) dX4_of_18 ⟨(Nat.zero_le _), (Nat.zero_le _)⟩) hS (fun q _ h => hFc q h) hFc (fun ri4 u9 t9 H1 locs ht9 hv9 hw hB9 hz9 hk9 hS => ?_)
  obtain ⟨⟩ := u9
  obtain ⟨hP1, hD1⟩ := hB9
  rw [ht9] at hP1
  obtain ⟨hP, hD⟩ := va_join (wr := [((am 16), aD q 6 Er), (om, .inr (4, [.int th, .int sa, .ref (am 0), .ref (am 1), .double mi, .ref (am 2), .ref (am 3), .ref (am 4), .int (nI nf), .ref (am 5), .ref (am 6), .ref (am 7), .ref (am 8), .ref (am 9), .ref (am 10), .ref (am 11), .ref (am 12), .ref (am 13), .ref (am 14), .ref (am 15), .ref (am 16), .ref (am 17), .ref (am 18), .ref (am 19)]))]) (w1 := []) hP hD [] [0, 1] rfl rfl (by decide) (by decide) hk9 hFc hP1 hD1
  generalize H1 = H at hP hS ⊢
  have hP : va_P G vwCl [((am 16), aD q 6 Er), (om, .inr (4, [.int th, .int sa, .ref (am 0), .ref (am 1), .double mi, .ref (am 2), .ref (am 3), .ref (am 4), .int (nI nf), .ref (am 5), .ref (am 6), .ref (am 7), .ref (am 8), .ref (am 9), .ref (am 10), .ref (am 11), .ref (am 12), .ref (am 13), .ref (am 14), .ref (am 15), .ref (am 16), .ref (am 17), .ref (am 18), .ref (am 19)]))] H := hP
  have hD : va_D A [((am 16), aD q 6 Er), (om, .inr (4, [.int th, .int sa, .ref (am 0), .ref (am 1), .double mi, .ref (am 2), .ref (am 3), .ref (am 4), .int (nI nf), .ref (am 5), .ref (am 6), .ref (am 7), .ref (am 8), .ref (am 9), .ref (am 10), .ref (am 11), .ref (am 12), .ref (am 13), .ref (am 14), .ref (am 15), .ref (am 16), .ref (am 17), .ref (am 18), .ref (am 19)]))] := hD
  obtain rfl : ri4 = 1 := hw.trans (if_pos (by decide))
  refine lv_if_eq (tgt := 28) hx hb dX4_of_21 (by decide) (fun h => absurd h (by decide)) (fun _ => ?_)
  refine lv_iconst (v := 0) hx hb dX4_of_24 (by decide) ?_
  refine lv_goto (tgt := 29) hx hb dX4_of_25 (by decide) ?_
  have hPc := hP.sub (ws' := [(om, .inr (4, [.int th, .int sa, .ref (am 0), .ref (am 1), .double mi, .ref (am 2), .ref (am 3), .ref (am 4), .int (nI nf), .ref (am 5), .ref (am 6), .ref (am 7), .ref (am 8), .ref (am 9), .ref (am 10), .ref (am 11), .ref (am 12), .ref (am 13), .ref (am 14), .ref (am 15), .ref (am 16), .ref (am 17), .ref (am 18), .ref (am 19)]))]) [1] rfl
  have hDc := hD.sub (ws' := [(om, .inr (4, [.int th, .int sa, .ref (am 0), .ref (am 1), .double mi, .ref (am 2), .ref (am 3), .ref (am 4), .int (nI nf), .ref (am 5), .ref (am 6), .ref (am 7), .ref (am 8), .ref (am 9), .ref (am 10), .ref (am 11), .ref (am 12), .ref (am 13), .ref (am 14), .ref (am 15), .ref (am 16), .ref (am 17), .ref (am 18), .ref (am 19)]))]) [1] (by decide) rfl
  have hFc := va_free (wc := [(om, .inr (4, [.int th, .int sa, .ref (am 0), .ref (am 1), .double mi, .ref (am 2), .ref (am 3), .ref (am 4), .int (nI nf), .ref (am 5), .ref (am 6), .ref (am 7), .ref (am 8), .ref (am 9), .ref (am 10), .ref (am 11), .ref (am 12), .ref (am 13), .ref (am 14), .ref (am 15), .ref (am 16), .ref (am 17), .ref (am 18), .ref (am 19)]))]) hD hS hA [1] rfl
  refine va_calli (va_runV (As := [.int 0]) (rest := []) ⟨hx, hb, hml, hown, hts⟩ (m_X4_goesWell l G q H.size om am th sa (nI nf) mi 0) (cwV 1 hts gX4_of_X4_goesWell rfl rfl rfl (by decide +kernel) ⟨Nat.le_of_ble_eq_true rfl, Nat.le_of_ble_eq_true rfl⟩) ⟨preW_blind, (va_recv hK hPc (ci := 4) (q0 := 0) rfl rfl), preW_start hPc hK hDc hNF⟩ rfl rfl hl.1 rfl (lv_room (Nat.le_of_ble_eq_true rfl)) dX4_of_29 ⟨(Nat.zero_le _), (Nat.zero_le _)⟩) hS (fun q _ h => hFc q h) hFc (fun gr7 u9 t9 H1 locs ht9 hv9 hw hB9 hz9 hk9 hS => ?_)
  obtain ⟨⟩ := u9
  obtain ⟨hP1, hD1⟩ := hB9
  rw [ht9] at hP1
  obtain ⟨hP, hD⟩ := va_join (wr := [((am 16), aD q 6 Er)]) (w1 := [(om, .inr (4, [.int 0, .int sa, .ref (am 0), .ref (am 1), .double mi, .ref (am 2), .ref (am 3), .ref (am 4), .int (nI nf), .ref (am 5), .ref (am 6), .ref (am 7), .ref (am 8), .ref (am 9), .ref (am 10), .ref (am 11), .ref (am 12), .ref (am 13), .ref (am 14), .ref (am 15), .ref (am 16), .ref (am 17), .ref (am 18), .ref (am 19)]))]) hP hD [1] [0] rfl rfl (by decide) (by decide) hk9 hFc hP1 hD1
  generalize H1 = H at hP hS ⊢
  have hP : va_P G vwCl [((am 16), aD q 6 Er), (om, .inr (4, [.int 0, .int sa, .ref (am 0), .ref (am 1), .double mi, .ref (am 2), .ref (am 3), .ref (am 4), .int (nI nf), .ref (am 5), .ref (am 6), .ref (am 7), .ref (am 8), .ref (am 9), .ref (am 10), .ref (am 11), .ref (am 12), .ref (am 13), .ref (am 14), .ref (am 15), .ref (am 16), .ref (am 17), .ref (am 18), .ref (am 19)]))] H := hP
  have hD : va_D A [((am 16), aD q 6 Er), (om, .inr (4, [.int 0, .int sa, .ref (am 0), .ref (am 1), .double mi, .ref (am 2), .ref (am 3), .ref (am 4), .int (nI nf), .ref (am 5), .ref (am 6), .ref (am 7), .ref (am 8), .ref (am 9), .ref (am 10), .ref (am 11), .ref (am 12), .ref (am 13), .ref (am 14), .ref (am 15), .ref (am 16), .ref (am 17), .ref (am 18), .ref (am 19)]))] := hD
  obtain rfl : gr7 = 1 := hw.trans (by decide)
  refine lv_if_ne (tgt := 37) hx hb dX4_of_32 (by decide) (fun _ => ?_) (fun h => absurd h (by decide))
  refine lv_iload_n hx hb dX4_of_37 rfl (lv_at hl 3 rfl) ?_
  refine lv_if_ne (tgt := 50) hx hb dX4_of_38 (by decide) (fun _ => ?_) (fun h => absurd h (by decide))
  refine lv_iload_n hx hb dX4_of_50 rfl (lv_at hl 3 rfl) ?_
  refine lv_iconst (v := 1) hx hb dX4_of_51 (by decide) ?_
  refine lv_icmp_ne (tgt := 64) hx hb dX4_of_52 (by decide) (fun h => absurd (by decide) h) (fun _ => ?_)
  refine lv_aload_n hx hb dX4_of_55 rfl (lv_at hl 1 rfl) ?_
  refine va_get (D := G) (ci := 4) (v := .ref (am 16)) (C := RX4) (T := TX4) (N := 24) hx hb hts in_X4_of_X4 hown hK hP 1 rfl rfl 20 (by decide) (hts (.fieldLink RX4 59 "EchoBenchModel" "error" "[D") (by decide +kernel)) (fun _ h9 => h9) rfl dX4_of_56 ?_
  refine lv_iload_n hx hb dX4_of_59 rfl (lv_at hl 2 rfl) ?_
  refine va_daldJ hx hb hK hP 0 1 rfl rfl (j := fx) rfl (by omega) (by decide) dX4_of_60 ?_
  refine lv_goto (tgt := 82) hx hb dX4_of_61 (by decide) ?_
  have hP := hP.sub (ws' := [(om, .inr (4, [.int 0, .int sa, .ref (am 0), .ref (am 1), .double mi, .ref (am 2), .ref (am 3), .ref (am 4), .int (nI nf), .ref (am 5), .ref (am 6), .ref (am 7), .ref (am 8), .ref (am 9), .ref (am 10), .ref (am 11), .ref (am 12), .ref (am 13), .ref (am 14), .ref (am 15), .ref (am 16), .ref (am 17), .ref (am 18), .ref (am 19)])), ((am 16), aD q 6 Er)]) [1, 0] rfl
  have hD := hD.sub (ws' := [(om, .inr (4, [.int 0, .int sa, .ref (am 0), .ref (am 1), .double mi, .ref (am 2), .ref (am 3), .ref (am 4), .int (nI nf), .ref (am 5), .ref (am 6), .ref (am 7), .ref (am 8), .ref (am 9), .ref (am 10), .ref (am 11), .ref (am 12), .ref (am 13), .ref (am 14), .ref (am 15), .ref (am 16), .ref (am 17), .ref (am 18), .ref (am 19)])), ((am 16), aD q 6 Er)]) [1, 0] (by decide) rfl
  have hP9 := hP
  have hD9 := hD
  exact W.dret (v := Er fx) hx hb hr (fun t ht hW => ⟨⟨Er fx, (), rfl, rfl, by rw [ht]; exact hP9, hD9⟩, hS.F ht⟩) hS.2.2 dX4_of_82

set_option maxHeartbeats 4000000 in
set_option maxRecDepth 100000 in
/-- of -/
theorem m_X4_of2 (l : Launch) (G : va_G) (q : Nat → ClassId) (sz : Nat) (om : Nat) (am : Nat → Nat) (th sa : Int32) (mi : UInt64) (nf : Nat) (fx n : Nat) (pa Ti : Nat → Int32) (Wt : Nat → UInt64) (hnf : nf ≤ 6) (hfx : fx < nf) (hn : n ≤ 8) (hT : Ti fx = nI n) : MetD lw_cs l yX4_of wsX4_of ({ frames := 2, cells := 0, slots := 0, locals := 43 } : Jvm.Room) (PreW G q [.ref om, .int (nI fx), .int 2] [(om, .inr (4, [.int th, .int sa, .ref (am 0), .ref (am 1), .double mi, .ref (am 2), .ref (am 3), .ref (am 4), .int (nI nf), .ref (am 5), .ref (am 6), .ref (am 7), .ref (am 8), .ref (am 9), .ref (am 10), .ref (am 11), .ref (am 12), .ref (am 13), .ref (am 14), .ref (am 15), .ref (am 16), .ref (am 17), .ref (am 18), .ref (am 19)])), ((am 0), aI q 8 pa), ((am 6), aI q 6 Ti), ((am 14), aD q 48 Wt)] sz) (va_Qd (fun (r : UInt64) (_ : Unit) => dV r = sOff n (fun k => dV (Wt (8 * fx + k))) pa) (fun (_ : Unit) t => EndA G (va_A [(om, .inr (4, [.int th, .int sa, .ref (am 0), .ref (am 1), .double mi, .ref (am 2), .ref (am 3), .ref (am 4), .int (nI nf), .ref (am 5), .ref (am 6), .ref (am 7), .ref (am 8), .ref (am 9), .ref (am 10), .ref (am 11), .ref (am 12), .ref (am 13), .ref (am 14), .ref (am 15), .ref (am 16), .ref (am 17), .ref (am 18), .ref (am 19)])), ((am 0), aI q 8 pa), ((am 6), aI q 6 Ti), ((am 14), aD q 48 Wt)] sz) [(om, .inr (4, [.int 0, .int sa, .ref (am 0), .ref (am 1), .double mi, .ref (am 2), .ref (am 3), .ref (am 4), .int (nI nf), .ref (am 5), .ref (am 6), .ref (am 7), .ref (am 8), .ref (am 9), .ref (am 10), .ref (am 11), .ref (am 12), .ref (am 13), .ref (am 14), .ref (am 15), .ref (am 16), .ref (am 17), .ref (am 18), .ref (am 19)])), ((am 0), aI q 8 pa), ((am 6), aI q 6 Ti), ((am 14), aD q 48 Wt)] t) (va_A [(om, .inr (4, [.int th, .int sa, .ref (am 0), .ref (am 1), .double mi, .ref (am 2), .ref (am 3), .ref (am 4), .int (nI nf), .ref (am 5), .ref (am 6), .ref (am 7), .ref (am 8), .ref (am 9), .ref (am 10), .ref (am 11), .ref (am 12), .ref (am 13), .ref (am 14), .ref (am 15), .ref (am 16), .ref (am 17), .ref (am 18), .ref (am 19)])), ((am 0), aI q 8 pa), ((am 6), aI q 6 Ti), ((am 14), aD q 48 Wt)] sz)) 0 0 (va_A [(om, .inr (4, [.int th, .int sa, .ref (am 0), .ref (am 1), .double mi, .ref (am 2), .ref (am 3), .ref (am 4), .int (nI nf), .ref (am 5), .ref (am 6), .ref (am 7), .ref (am 8), .ref (am 9), .ref (am 10), .ref (am 11), .ref (am 12), .ref (am 13), .ref (am 14), .ref (am 15), .ref (am 16), .ref (am 17), .ref (am 18), .ref (am 19)])), ((am 0), aI q 8 pa), ((am 6), aI q 6 Ti), ((am 14), aD q 48 Wt)] sz) := by
  refine MetD.ofW (cc := cX4_of) (maxL := 4) (ret := (some .double)) (by decide +kernel) rfl ?_
  intro p e s m args below meth c s₁ B hml hv hd0
  obtain ⟨rfl, hsz, hP, hK, hD0, hNF⟩ := hv
  have hx := B.exec
  have hb := B.bytes
  have hr := B.returns
  have hts := atoms_spec (ws := wsX4_of) B.pre
  have hown : s.vm.findClass RX4 = some m.cls := findClass_of_methodNamed B.named
  have hlocks := B.notSynchronized
  subst hsz
  have hD := hD0.self (sz := s.heap.size)
  generalize hAe : va_A [(om, .inr (4, [.int th, .int sa, .ref (am 0), .ref (am 1), .double mi, .ref (am 2), .ref (am 3), .ref (am 4), .int (nI nf), .ref (am 5), .ref (am 6), .ref (am 7), .ref (am 8), .ref (am 9), .ref (am 10), .ref (am 11), .ref (am 12), .ref (am 13), .ref (am 14), .ref (am 15), .ref (am 16), .ref (am 17), .ref (am 18), .ref (am 19)])), ((am 0), aI q 8 pa), ((am 6), aI q 6 Ti), ((am 14), aD q 48 Wt)] s.heap.size = A at hD ⊢
  have hA : ∀ q : Nat, s.heap.size ≤ q → A q := fun q h => by rw [← hAe]; exact Or.inr h
  have hS : va_S A s.heap s.heap [] := va_S.rf
  have hP : va_P G vwCl [(om, .inr (4, [.int th, .int sa, .ref (am 0), .ref (am 1), .double mi, .ref (am 2), .ref (am 3), .ref (am 4), .int (nI nf), .ref (am 5), .ref (am 6), .ref (am 7), .ref (am 8), .ref (am 9), .ref (am 10), .ref (am 11), .ref (am 12), .ref (am 13), .ref (am 14), .ref (am 15), .ref (am 16), .ref (am 17), .ref (am 18), .ref (am 19)])), ((am 0), aI q 8 pa), ((am 6), aI q 6 Ti), ((am 14), aD q 48 Wt)] s.heap := hP
  have hl := lv_entry ([.ref om, .int (nI fx), .int 2]) (n := 4) (Nat.le_of_ble_eq_true rfl)
  rw [lg_entry_eq]
  generalize (lg_sl ([.ref om, .int (nI fx), .int 2]) ++ List.replicate (4 - (lg_sl ([.ref om, .int (nI fx), .int 2])).length) Slot.unset).toArray = ls at hl ⊢
  have hl : lv_has ls 4 [(0, .ref om), (1, .int (nI fx)), (2, .int 2)] := hl
  refine lv_aload_n hx hb dX4_of_0 rfl (lv_at hl 0 rfl) ?_
  refine lv_iload_n hx hb dX4_of_1 rfl (lv_at hl 1 rfl) ?_
  have hPc := hP.sub (ws' := [(om, .inr (4, [.int th, .int sa, .ref (am 0), .ref (am 1), .double mi, .ref (am 2), .ref (am 3), .ref (am 4), .int (nI nf), .ref (am 5), .ref (am 6), .ref (am 7), .ref (am 8), .ref (am 9), .ref (am 10), .ref (am 11), .ref (am 12), .ref (am 13), .ref (am 14), .ref (am 15), .ref (am 16), .ref (am 17), .ref (am 18), .ref (am 19)]))]) [0] rfl
  have hDc := hD.sub (ws' := [(om, .inr (4, [.int th, .int sa, .ref (am 0), .ref (am 1), .double mi, .ref (am 2), .ref (am 3), .ref (am 4), .int (nI nf), .ref (am 5), .ref (am 6), .ref (am 7), .ref (am 8), .ref (am 9), .ref (am 10), .ref (am 11), .ref (am 12), .ref (am 13), .ref (am 14), .ref (am 15), .ref (am 16), .ref (am 17), .ref (am 18), .ref (am 19)]))]) [0] (by decide) rfl
  have hFc := va_free (wc := [(om, .inr (4, [.int th, .int sa, .ref (am 0), .ref (am 1), .double mi, .ref (am 2), .ref (am 3), .ref (am 4), .int (nI nf), .ref (am 5), .ref (am 6), .ref (am 7), .ref (am 8), .ref (am 9), .ref (am 10), .ref (am 11), .ref (am 12), .ref (am 13), .ref (am 14), .ref (am 15), .ref (am 16), .ref (am 17), .ref (am 18), .ref (am 19)]))]) hD hS hA [0] rfl
  refine va_calli (va_runV (As := [.int (nI fx)]) (rest := []) ⟨hx, hb, hml, hown, (dr_words hts s.drawn)⟩ (m_X4_isFilter l G q s.heap.size om am th sa (nI nf) mi (nI fx)) (cwV 1 (dr_words hts s.drawn) gX4_of_X4_isFilter rfl rfl rfl (by decide +kernel) ⟨Nat.le_of_ble_eq_true rfl, Nat.le_of_ble_eq_true rfl⟩) ⟨preW_blind, (va_recv hK hPc (ci := 4) (q0 := 0) rfl rfl), preW_start (s := s.setDrawn s.drawn) hPc hK hDc (hNF.drawn s.drawn)⟩ rfl rfl hl.1 rfl (lv_room (Nat.le_of_ble_eq_true rfl)) dX4_of_2 ⟨(Nat.zero_le _), (Nat.zero_le _)⟩) hS (fun q _ h => hFc q h) hFc (fun rf1 u9 t9 H1 locs ht9 hv9 hw hB9 hz9 hk9 hS => ?_)
  obtain ⟨⟩ := u9
  obtain ⟨hP1, hD1⟩ := hB9
  rw [ht9] at hP1
  obtain ⟨hP, hD⟩ := va_join (wr := [((am 0), aI q 8 pa), ((am 6), aI q 6 Ti), ((am 14), aD q 48 Wt)]) (w1 := [(om, .inr (4, [.int th, .int sa, .ref (am 0), .ref (am 1), .double mi, .ref (am 2), .ref (am 3), .ref (am 4), .int (nI nf), .ref (am 5), .ref (am 6), .ref (am 7), .ref (am 8), .ref (am 9), .ref (am 10), .ref (am 11), .ref (am 12), .ref (am 13), .ref (am 14), .ref (am 15), .ref (am 16), .ref (am 17), .ref (am 18), .ref (am 19)]))]) hP hD [0] [1, 2, 3] rfl rfl (by decide) (by decide) hk9 hFc hP1 hD1
  generalize H1 = H at hP hS ⊢
  have hP : va_P G vwCl [((am 0), aI q 8 pa), ((am 6), aI q 6 Ti), ((am 14), aD q 48 Wt), (om, .inr (4, [.int th, .int sa, .ref (am 0), .ref (am 1), .double mi, .ref (am 2), .ref (am 3), .ref (am 4), .int (nI nf), .ref (am 5), .ref (am 6), .ref (am 7), .ref (am 8), .ref (am 9), .ref (am 10), .ref (am 11), .ref (am 12), .ref (am 13), .ref (am 14), .ref (am 15), .ref (am 16), .ref (am 17), .ref (am 18), .ref (am 19)]))] H := hP
  have hD : va_D A [((am 0), aI q 8 pa), ((am 6), aI q 6 Ti), ((am 14), aD q 48 Wt), (om, .inr (4, [.int th, .int sa, .ref (am 0), .ref (am 1), .double mi, .ref (am 2), .ref (am 3), .ref (am 4), .int (nI nf), .ref (am 5), .ref (am 6), .ref (am 7), .ref (am 8), .ref (am 9), .ref (am 10), .ref (am 11), .ref (am 12), .ref (am 13), .ref (am 14), .ref (am 15), .ref (am 16), .ref (am 17), .ref (am 18), .ref (am 19)]))] := hD
  obtain rfl : rf1 = 1 := hw.trans (if_pos (m1_in (by omega) hfx))
  refine lv_istore_n (lv' := [(3, .int 1), (0, .ref om), (1, .int (nI fx)), (2, .int 2)]) hx hb dX4_of_5 rfl hl (by decide) rfl (fun ls hl => ?_)
  refine lv_aload_n hx hb dX4_of_6 rfl (lv_at hl 1 rfl) ?_
  refine lv_iload_n hx hb dX4_of_7 rfl (lv_at hl 0 rfl) ?_
  refine lv_if_ne (tgt := 15) hx hb dX4_of_8 (by decide) (fun _ => ?_) (fun h => absurd h (by decide))
  refine lv_iload_n hx hb dX4_of_15 rfl (lv_at hl 3 rfl) ?_
  refine lv_iconst (v := 0) hx hb dX4_of_16 (by decide) ?_
  refine lv_iconst (v := 3) hx hb dX4_of_17 (by decide) ?_
  have hPc := hP.sub (ws' := []) [] rfl
  have hDc := hD.sub (ws' := []) [] (by decide) rfl
  have hFc := va_free (wc := []) hD hS hA [] rfl
  refine va_calli (va_runS (As := [.int 2, .int 0, .int 3]) (rest := [.ref om]) ⟨hx, hb, hml, hown, (dr_words hts s.drawn)⟩ (m_X4_in l G q H.size 2 0 3) (va_cwS 3 (dr_words hts s.drawn) gX4_of_X4_in rfl rfl rfl (by decide +kernel) ⟨Nat.le_of_ble_eq_true rfl, Nat.le_of_ble_eq_true rfl⟩) ⟨preW_blind, preW_start (s := s.setDrawn s.drawn) hPc hK hDc (hNF.drawn s.drawn)⟩ rfl rfl hl.1 rfl (lv_room (Nat.le_of_ble_eq_true rfl)) dX4_of_18 ⟨(Nat.zero_le _), (Nat.zero_le _)⟩) hS (fun q _ h => hFc q h) hFc (fun ri4 u9 t9 H1 locs ht9 hv9 hw hB9 hz9 hk9 hS => ?_)
  obtain ⟨⟩ := u9
  obtain ⟨hP1, hD1⟩ := hB9
  rw [ht9] at hP1
  obtain ⟨hP, hD⟩ := va_join (wr := [((am 0), aI q 8 pa), ((am 6), aI q 6 Ti), ((am 14), aD q 48 Wt), (om, .inr (4, [.int th, .int sa, .ref (am 0), .ref (am 1), .double mi, .ref (am 2), .ref (am 3), .ref (am 4), .int (nI nf), .ref (am 5), .ref (am 6), .ref (am 7), .ref (am 8), .ref (am 9), .ref (am 10), .ref (am 11), .ref (am 12), .ref (am 13), .ref (am 14), .ref (am 15), .ref (am 16), .ref (am 17), .ref (am 18), .ref (am 19)]))]) (w1 := []) hP hD [] [0, 1, 2, 3] rfl rfl (by decide) (by decide) hk9 hFc hP1 hD1
  generalize H1 = H at hP hS ⊢
  have hP : va_P G vwCl [((am 0), aI q 8 pa), ((am 6), aI q 6 Ti), ((am 14), aD q 48 Wt), (om, .inr (4, [.int th, .int sa, .ref (am 0), .ref (am 1), .double mi, .ref (am 2), .ref (am 3), .ref (am 4), .int (nI nf), .ref (am 5), .ref (am 6), .ref (am 7), .ref (am 8), .ref (am 9), .ref (am 10), .ref (am 11), .ref (am 12), .ref (am 13), .ref (am 14), .ref (am 15), .ref (am 16), .ref (am 17), .ref (am 18), .ref (am 19)]))] H := hP
  have hD : va_D A [((am 0), aI q 8 pa), ((am 6), aI q 6 Ti), ((am 14), aD q 48 Wt), (om, .inr (4, [.int th, .int sa, .ref (am 0), .ref (am 1), .double mi, .ref (am 2), .ref (am 3), .ref (am 4), .int (nI nf), .ref (am 5), .ref (am 6), .ref (am 7), .ref (am 8), .ref (am 9), .ref (am 10), .ref (am 11), .ref (am 12), .ref (am 13), .ref (am 14), .ref (am 15), .ref (am 16), .ref (am 17), .ref (am 18), .ref (am 19)]))] := hD
  obtain rfl : ri4 = 1 := hw.trans (if_pos (by decide))
  refine lv_if_eq (tgt := 28) hx hb dX4_of_21 (by decide) (fun h => absurd h (by decide)) (fun _ => ?_)
  refine lv_iconst (v := 0) hx hb dX4_of_24 (by decide) ?_
  refine lv_goto (tgt := 29) hx hb dX4_of_25 (by decide) ?_
  have hPc := hP.sub (ws' := [(om, .inr (4, [.int th, .int sa, .ref (am 0), .ref (am 1), .double mi, .ref (am 2), .ref (am 3), .ref (am 4), .int (nI nf), .ref (am 5), .ref (am 6), .ref (am 7), .ref (am 8), .ref (am 9), .ref (am 10), .ref (am 11), .ref (am 12), .ref (am 13), .ref (am 14), .ref (am 15), .ref (am 16), .ref (am 17), .ref (am 18), .ref (am 19)]))]) [3] rfl
  have hDc := hD.sub (ws' := [(om, .inr (4, [.int th, .int sa, .ref (am 0), .ref (am 1), .double mi, .ref (am 2), .ref (am 3), .ref (am 4), .int (nI nf), .ref (am 5), .ref (am 6), .ref (am 7), .ref (am 8), .ref (am 9), .ref (am 10), .ref (am 11), .ref (am 12), .ref (am 13), .ref (am 14), .ref (am 15), .ref (am 16), .ref (am 17), .ref (am 18), .ref (am 19)]))]) [3] (by decide) rfl
  have hFc := va_free (wc := [(om, .inr (4, [.int th, .int sa, .ref (am 0), .ref (am 1), .double mi, .ref (am 2), .ref (am 3), .ref (am 4), .int (nI nf), .ref (am 5), .ref (am 6), .ref (am 7), .ref (am 8), .ref (am 9), .ref (am 10), .ref (am 11), .ref (am 12), .ref (am 13), .ref (am 14), .ref (am 15), .ref (am 16), .ref (am 17), .ref (am 18), .ref (am 19)]))]) hD hS hA [3] rfl
  refine va_calli (va_runV (As := [.int 0]) (rest := []) ⟨hx, hb, hml, hown, (dr_words hts s.drawn)⟩ (m_X4_goesWell l G q H.size om am th sa (nI nf) mi 0) (cwV 1 (dr_words hts s.drawn) gX4_of_X4_goesWell rfl rfl rfl (by decide +kernel) ⟨Nat.le_of_ble_eq_true rfl, Nat.le_of_ble_eq_true rfl⟩) ⟨preW_blind, (va_recv hK hPc (ci := 4) (q0 := 0) rfl rfl), preW_start (s := s.setDrawn s.drawn) hPc hK hDc (hNF.drawn s.drawn)⟩ rfl rfl hl.1 rfl (lv_room (Nat.le_of_ble_eq_true rfl)) dX4_of_29 ⟨(Nat.zero_le _), (Nat.zero_le _)⟩) hS (fun q _ h => hFc q h) hFc (fun gr7 u9 t9 H1 locs ht9 hv9 hw hB9 hz9 hk9 hS => ?_)
  obtain ⟨⟩ := u9
  obtain ⟨hP1, hD1⟩ := hB9
  rw [ht9] at hP1
  obtain ⟨hP, hD⟩ := va_join (wr := [((am 0), aI q 8 pa), ((am 6), aI q 6 Ti), ((am 14), aD q 48 Wt)]) (w1 := [(om, .inr (4, [.int 0, .int sa, .ref (am 0), .ref (am 1), .double mi, .ref (am 2), .ref (am 3), .ref (am 4), .int (nI nf), .ref (am 5), .ref (am 6), .ref (am 7), .ref (am 8), .ref (am 9), .ref (am 10), .ref (am 11), .ref (am 12), .ref (am 13), .ref (am 14), .ref (am 15), .ref (am 16), .ref (am 17), .ref (am 18), .ref (am 19)]))]) hP hD [3] [0, 1, 2] rfl rfl (by decide) (by decide) hk9 hFc hP1 hD1
  generalize H1 = H at hP hS ⊢
  have hP : va_P G vwCl [((am 0), aI q 8 pa), ((am 6), aI q 6 Ti), ((am 14), aD q 48 Wt), (om, .inr (4, [.int 0, .int sa, .ref (am 0), .ref (am 1), .double mi, .ref (am 2), .ref (am 3), .ref (am 4), .int (nI nf), .ref (am 5), .ref (am 6), .ref (am 7), .ref (am 8), .ref (am 9), .ref (am 10), .ref (am 11), .ref (am 12), .ref (am 13), .ref (am 14), .ref (am 15), .ref (am 16), .ref (am 17), .ref (am 18), .ref (am 19)]))] H := hP
  have hD : va_D A [((am 0), aI q 8 pa), ((am 6), aI q 6 Ti), ((am 14), aD q 48 Wt), (om, .inr (4, [.int 0, .int sa, .ref (am 0), .ref (am 1), .double mi, .ref (am 2), .ref (am 3), .ref (am 4), .int (nI nf), .ref (am 5), .ref (am 6), .ref (am 7), .ref (am 8), .ref (am 9), .ref (am 10), .ref (am 11), .ref (am 12), .ref (am 13), .ref (am 14), .ref (am 15), .ref (am 16), .ref (am 17), .ref (am 18), .ref (am 19)]))] := hD
  obtain rfl : gr7 = 1 := hw.trans (by decide)
  refine lv_if_ne (tgt := 37) hx hb dX4_of_32 (by decide) (fun _ => ?_) (fun h => absurd h (by decide))
  refine lv_iload_n hx hb dX4_of_37 rfl (lv_at hl 3 rfl) ?_
  refine lv_if_ne (tgt := 50) hx hb dX4_of_38 (by decide) (fun _ => ?_) (fun h => absurd h (by decide))
  refine lv_iload_n hx hb dX4_of_50 rfl (lv_at hl 3 rfl) ?_
  refine lv_iconst (v := 1) hx hb dX4_of_51 (by decide) ?_
  refine lv_icmp_ne (tgt := 64) hx hb dX4_of_52 (by decide) (fun _ => ?_) (fun h => absurd h (by decide))
  refine lv_iload_n hx hb dX4_of_64 rfl (lv_at hl 3 rfl) ?_
  refine lv_iconst (v := 2) hx hb dX4_of_65 (by decide) ?_
  refine lv_icmp_ne (tgt := 77) hx hb dX4_of_66 (by decide) (fun h => absurd (by decide) h) (fun _ => ?_)
  refine lv_aload_n hx hb dX4_of_69 rfl (lv_at hl 1 rfl) ?_
  refine lv_iload_n hx hb dX4_of_70 rfl (lv_at hl 2 rfl) ?_
  have hPc := hP.sub (ws' := [(om, .inr (4, [.int 0, .int sa, .ref (am 0), .ref (am 1), .double mi, .ref (am 2), .ref (am 3), .ref (am 4), .int (nI nf), .ref (am 5), .ref (am 6), .ref (am 7), .ref (am 8), .ref (am 9), .ref (am 10), .ref (am 11), .ref (am 12), .ref (am 13), .ref (am 14), .ref (am 15), .ref (am 16), .ref (am 17), .ref (am 18), .ref (am 19)])), ((am 0), aI q 8 pa), ((am 6), aI q 6 Ti), ((am 14), aD q 48 Wt)]) [3, 0, 1, 2] rfl
  have hDc := hD.sub (ws' := [(om, .inr (4, [.int 0, .int sa, .ref (am 0), .ref (am 1), .double mi, .ref (am 2), .ref (am 3), .ref (am 4), .int (nI nf), .ref (am 5), .ref (am 6), .ref (am 7), .ref (am 8), .ref (am 9), .ref (am 10), .ref (am 11), .ref (am 12), .ref (am 13), .ref (am 14), .ref (am 15), .ref (am 16), .ref (am 17), .ref (am 18), .ref (am 19)])), ((am 0), aI q 8 pa), ((am 6), aI q 6 Ti), ((am 14), aD q 48 Wt)]) [3, 0, 1, 2] (by decide) rfl
  have hFc := va_free (wc := [(om, .inr (4, [.int 0, .int sa, .ref (am 0), .ref (am 1), .double mi, .ref (am 2), .ref (am 3), .ref (am 4), .int (nI nf), .ref (am 5), .ref (am 6), .ref (am 7), .ref (am 8), .ref (am 9), .ref (am 10), .ref (am 11), .ref (am 12), .ref (am 13), .ref (am 14), .ref (am 15), .ref (am 16), .ref (am 17), .ref (am 18), .ref (am 19)])), ((am 0), aI q 8 pa), ((am 6), aI q 6 Ti), ((am 14), aD q 48 Wt)]) hD hS hA [3, 0, 1, 2] rfl
  refine va_calldD hd0 (va_runV_D (As := [.int (nI fx)]) (rest := []) ⟨hx, hb, hml, hown, (dr_words hts s.drawn)⟩ (m_X4_offBy l G q H.size om am 0 sa mi nf fx n pa Ti Wt (by omega) hn hT) (cwV 1 (dr_words hts s.drawn) gX4_of_X4_offBy rfl rfl rfl (by decide +kernel) ⟨Nat.le_of_ble_eq_true rfl, Nat.le_of_ble_eq_true rfl⟩) ⟨preW_blind, (va_recv hK hPc (ci := 4) (q0 := 0) rfl rfl), preW_start (s := s.setDrawn s.drawn) hPc hK hDc (hNF.drawn s.drawn)⟩ rfl rfl hl.1 rfl (lv_room (Nat.le_of_ble_eq_true rfl)) dX4_of_71 ⟨(Nat.zero_le _), (Nat.zero_le _)⟩) hS (fun q _ h => hFc q h) hFc (fun ro u9 t9 H1 locs ht9 hv9 hw hB9 hz9 hk9 hS du13 hu13 => ?_)
  obtain ⟨⟩ := u9
  obtain ⟨hP1, hD1⟩ := hB9
  rw [ht9] at hP1
  obtain ⟨hP, hD⟩ := va_join (wr := []) (w1 := [(om, .inr (4, [.int 0, .int sa, .ref (am 0), .ref (am 1), .double mi, .ref (am 2), .ref (am 3), .ref (am 4), .int (nI nf), .ref (am 5), .ref (am 6), .ref (am 7), .ref (am 8), .ref (am 9), .ref (am 10), .ref (am 11), .ref (am 12), .ref (am 13), .ref (am 14), .ref (am 15), .ref (am 16), .ref (am 17), .ref (am 18), .ref (am 19)])), ((am 0), aI q 8 pa), ((am 6), aI q 6 Ti), ((am 14), aD q 48 Wt)]) hP hD [3, 0, 1, 2] [] rfl rfl (by decide) (by decide) hk9 hFc hP1 hD1
  generalize H1 = H at hP hS ⊢
  have hP : va_P G vwCl [(om, .inr (4, [.int 0, .int sa, .ref (am 0), .ref (am 1), .double mi, .ref (am 2), .ref (am 3), .ref (am 4), .int (nI nf), .ref (am 5), .ref (am 6), .ref (am 7), .ref (am 8), .ref (am 9), .ref (am 10), .ref (am 11), .ref (am 12), .ref (am 13), .ref (am 14), .ref (am 15), .ref (am 16), .ref (am 17), .ref (am 18), .ref (am 19)])), ((am 0), aI q 8 pa), ((am 6), aI q 6 Ti), ((am 14), aD q 48 Wt)] H := hP
  have hD : va_D A [(om, .inr (4, [.int 0, .int sa, .ref (am 0), .ref (am 1), .double mi, .ref (am 2), .ref (am 3), .ref (am 4), .int (nI nf), .ref (am 5), .ref (am 6), .ref (am 7), .ref (am 8), .ref (am 9), .ref (am 10), .ref (am 11), .ref (am 12), .ref (am 13), .ref (am 14), .ref (am 15), .ref (am 16), .ref (am 17), .ref (am 18), .ref (am 19)])), ((am 0), aI q 8 pa), ((am 6), aI q 6 Ti), ((am 14), aD q 48 Wt)] := hD
  have hro := hw
  refine lv_goto (tgt := 82) hx hb dX4_of_74 (by decide) ?_
  have hP9 := hP
  have hD9 := hD
  refine W.endD hu13 ?_
  exact W.dret (v := ro) hx hb hr (fun t ht hW => ⟨⟨ro, (), rfl, hro, by rw [ht]; exact hP9, hD9⟩, hS.F ht⟩) hS.2.2 dX4_of_82

set_option maxHeartbeats 4000000 in
set_option maxRecDepth 100000 in
/-- of -/
theorem m_X4_of3 (l : Launch) (G : va_G) (q : Nat → ClassId) (sz : Nat) (om : Nat) (am : Nat → Nat) (th sa : Int32) (mi : UInt64) (nf : Nat) (fx tt : Nat) (Hi : Nat → Int32) (Es : Nat → UInt64) (hnf : nf ≤ 6) (hfx : fx < nf) (hH : Hi fx = nI tt) (htt : tt ≤ 2000) : MetD lw_cs l yX4_of wsX4_of ({ frames := 2, cells := 0, slots := 0, locals := 43 } : Jvm.Room) (PreW G q [.ref om, .int (nI fx), .int 3] [(om, .inr (4, [.int th, .int sa, .ref (am 0), .ref (am 1), .double mi, .ref (am 2), .ref (am 3), .ref (am 4), .int (nI nf), .ref (am 5), .ref (am 6), .ref (am 7), .ref (am 8), .ref (am 9), .ref (am 10), .ref (am 11), .ref (am 12), .ref (am 13), .ref (am 14), .ref (am 15), .ref (am 16), .ref (am 17), .ref (am 18), .ref (am 19)])), ((am 11), aI q 6 Hi), ((am 17), aD q 96 Es)] sz) (va_Qd (fun (r : UInt64) (_ : Unit) => dV r = sPow tt (fun k => dV (Es (16 * fx + k)))) (fun (_ : Unit) t => EndA G (va_A [(om, .inr (4, [.int th, .int sa, .ref (am 0), .ref (am 1), .double mi, .ref (am 2), .ref (am 3), .ref (am 4), .int (nI nf), .ref (am 5), .ref (am 6), .ref (am 7), .ref (am 8), .ref (am 9), .ref (am 10), .ref (am 11), .ref (am 12), .ref (am 13), .ref (am 14), .ref (am 15), .ref (am 16), .ref (am 17), .ref (am 18), .ref (am 19)])), ((am 11), aI q 6 Hi), ((am 17), aD q 96 Es)] sz) [(om, .inr (4, [.int 0, .int sa, .ref (am 0), .ref (am 1), .double mi, .ref (am 2), .ref (am 3), .ref (am 4), .int (nI nf), .ref (am 5), .ref (am 6), .ref (am 7), .ref (am 8), .ref (am 9), .ref (am 10), .ref (am 11), .ref (am 12), .ref (am 13), .ref (am 14), .ref (am 15), .ref (am 16), .ref (am 17), .ref (am 18), .ref (am 19)])), ((am 11), aI q 6 Hi), ((am 17), aD q 96 Es)] t) (va_A [(om, .inr (4, [.int th, .int sa, .ref (am 0), .ref (am 1), .double mi, .ref (am 2), .ref (am 3), .ref (am 4), .int (nI nf), .ref (am 5), .ref (am 6), .ref (am 7), .ref (am 8), .ref (am 9), .ref (am 10), .ref (am 11), .ref (am 12), .ref (am 13), .ref (am 14), .ref (am 15), .ref (am 16), .ref (am 17), .ref (am 18), .ref (am 19)])), ((am 11), aI q 6 Hi), ((am 17), aD q 96 Es)] sz)) 0 0 (va_A [(om, .inr (4, [.int th, .int sa, .ref (am 0), .ref (am 1), .double mi, .ref (am 2), .ref (am 3), .ref (am 4), .int (nI nf), .ref (am 5), .ref (am 6), .ref (am 7), .ref (am 8), .ref (am 9), .ref (am 10), .ref (am 11), .ref (am 12), .ref (am 13), .ref (am 14), .ref (am 15), .ref (am 16), .ref (am 17), .ref (am 18), .ref (am 19)])), ((am 11), aI q 6 Hi), ((am 17), aD q 96 Es)] sz) := by
  refine MetD.ofW (cc := cX4_of) (maxL := 4) (ret := (some .double)) (by decide +kernel) rfl ?_
  intro p e s m args below meth c s₁ B hml hv hd0
  obtain ⟨rfl, hsz, hP, hK, hD0, hNF⟩ := hv
  have hx := B.exec
  have hb := B.bytes
  have hr := B.returns
  have hts := atoms_spec (ws := wsX4_of) B.pre
  have hown : s.vm.findClass RX4 = some m.cls := findClass_of_methodNamed B.named
  have hlocks := B.notSynchronized
  subst hsz
  have hD := hD0.self (sz := s.heap.size)
  generalize hAe : va_A [(om, .inr (4, [.int th, .int sa, .ref (am 0), .ref (am 1), .double mi, .ref (am 2), .ref (am 3), .ref (am 4), .int (nI nf), .ref (am 5), .ref (am 6), .ref (am 7), .ref (am 8), .ref (am 9), .ref (am 10), .ref (am 11), .ref (am 12), .ref (am 13), .ref (am 14), .ref (am 15), .ref (am 16), .ref (am 17), .ref (am 18), .ref (am 19)])), ((am 11), aI q 6 Hi), ((am 17), aD q 96 Es)] s.heap.size = A at hD ⊢
  have hA : ∀ q : Nat, s.heap.size ≤ q → A q := fun q h => by rw [← hAe]; exact Or.inr h
  have hS : va_S A s.heap s.heap [] := va_S.rf
  have hP : va_P G vwCl [(om, .inr (4, [.int th, .int sa, .ref (am 0), .ref (am 1), .double mi, .ref (am 2), .ref (am 3), .ref (am 4), .int (nI nf), .ref (am 5), .ref (am 6), .ref (am 7), .ref (am 8), .ref (am 9), .ref (am 10), .ref (am 11), .ref (am 12), .ref (am 13), .ref (am 14), .ref (am 15), .ref (am 16), .ref (am 17), .ref (am 18), .ref (am 19)])), ((am 11), aI q 6 Hi), ((am 17), aD q 96 Es)] s.heap := hP
  have hl := lv_entry ([.ref om, .int (nI fx), .int 3]) (n := 4) (Nat.le_of_ble_eq_true rfl)
  rw [lg_entry_eq]
  generalize (lg_sl ([.ref om, .int (nI fx), .int 3]) ++ List.replicate (4 - (lg_sl ([.ref om, .int (nI fx), .int 3])).length) Slot.unset).toArray = ls at hl ⊢
  have hl : lv_has ls 4 [(0, .ref om), (1, .int (nI fx)), (2, .int 3)] := hl
  refine lv_aload_n hx hb dX4_of_0 rfl (lv_at hl 0 rfl) ?_
  refine lv_iload_n hx hb dX4_of_1 rfl (lv_at hl 1 rfl) ?_
  have hPc := hP.sub (ws' := [(om, .inr (4, [.int th, .int sa, .ref (am 0), .ref (am 1), .double mi, .ref (am 2), .ref (am 3), .ref (am 4), .int (nI nf), .ref (am 5), .ref (am 6), .ref (am 7), .ref (am 8), .ref (am 9), .ref (am 10), .ref (am 11), .ref (am 12), .ref (am 13), .ref (am 14), .ref (am 15), .ref (am 16), .ref (am 17), .ref (am 18), .ref (am 19)]))]) [0] rfl
  have hDc := hD.sub (ws' := [(om, .inr (4, [.int th, .int sa, .ref (am 0), .ref (am 1), .double mi, .ref (am 2), .ref (am 3), .ref (am 4), .int (nI nf), .ref (am 5), .ref (am 6), .ref (am 7), .ref (am 8), .ref (am 9), .ref (am 10), .ref (am 11), .ref (am 12), .ref (am 13), .ref (am 14), .ref (am 15), .ref (am 16), .ref (am 17), .ref (am 18), .ref (am 19)]))]) [0] (by decide) rfl
  have hFc := va_free (wc := [(om, .inr (4, [.int th, .int sa, .ref (am 0), .ref (am 1), .double mi, .ref (am 2), .ref (am 3), .ref (am 4), .int (nI nf), .ref (am 5), .ref (am 6), .ref (am 7), .ref (am 8), .ref (am 9), .ref (am 10), .ref (am 11), .ref (am 12), .ref (am 13), .ref (am 14), .ref (am 15), .ref (am 16), .ref (am 17), .ref (am 18), .ref (am 19)]))]) hD hS hA [0] rfl
  refine va_calli (va_runV (As := [.int (nI fx)]) (rest := []) ⟨hx, hb, hml, hown, (dr_words hts s.drawn)⟩ (m_X4_isFilter l G q s.heap.size om am th sa (nI nf) mi (nI fx)) (cwV 1 (dr_words hts s.drawn) gX4_of_X4_isFilter rfl rfl rfl (by decide +kernel) ⟨Nat.le_of_ble_eq_true rfl, Nat.le_of_ble_eq_true rfl⟩) ⟨preW_blind, (va_recv hK hPc (ci := 4) (q0 := 0) rfl rfl), preW_start (s := s.setDrawn s.drawn) hPc hK hDc (hNF.drawn s.drawn)⟩ rfl rfl hl.1 rfl (lv_room (Nat.le_of_ble_eq_true rfl)) dX4_of_2 ⟨(Nat.zero_le _), (Nat.zero_le _)⟩) hS (fun q _ h => hFc q h) hFc (fun rf1 u9 t9 H1 locs ht9 hv9 hw hB9 hz9 hk9 hS => ?_)
  obtain ⟨⟩ := u9
  obtain ⟨hP1, hD1⟩ := hB9
  rw [ht9] at hP1
  obtain ⟨hP, hD⟩ := va_join (wr := [((am 11), aI q 6 Hi), ((am 17), aD q 96 Es)]) (w1 := [(om, .inr (4, [.int th, .int sa, .ref (am 0), .ref (am 1), .double mi, .ref (am 2), .ref (am 3), .ref (am 4), .int (nI nf), .ref (am 5), .ref (am 6), .ref (am 7), .ref (am 8), .ref (am 9), .ref (am 10), .ref (am 11), .ref (am 12), .ref (am 13), .ref (am 14), .ref (am 15), .ref (am 16), .ref (am 17), .ref (am 18), .ref (am 19)]))]) hP hD [0] [1, 2] rfl rfl (by decide) (by decide) hk9 hFc hP1 hD1
  generalize H1 = H at hP hS ⊢
  have hP : va_P G vwCl [((am 11), aI q 6 Hi), ((am 17), aD q 96 Es), (om, .inr (4, [.int th, .int sa, .ref (am 0), .ref (am 1), .double mi, .ref (am 2), .ref (am 3), .ref (am 4), .int (nI nf), .ref (am 5), .ref (am 6), .ref (am 7), .ref (am 8), .ref (am 9), .ref (am 10), .ref (am 11), .ref (am 12), .ref (am 13), .ref (am 14), .ref (am 15), .ref (am 16), .ref (am 17), .ref (am 18), .ref (am 19)]))] H := hP
  have hD : va_D A [((am 11), aI q 6 Hi), ((am 17), aD q 96 Es), (om, .inr (4, [.int th, .int sa, .ref (am 0), .ref (am 1), .double mi, .ref (am 2), .ref (am 3), .ref (am 4), .int (nI nf), .ref (am 5), .ref (am 6), .ref (am 7), .ref (am 8), .ref (am 9), .ref (am 10), .ref (am 11), .ref (am 12), .ref (am 13), .ref (am 14), .ref (am 15), .ref (am 16), .ref (am 17), .ref (am 18), .ref (am 19)]))] := hD
  obtain rfl : rf1 = 1 := hw.trans (if_pos (m1_in (by omega) hfx))
  refine lv_istore_n (lv' := [(3, .int 1), (0, .ref om), (1, .int (nI fx)), (2, .int 3)]) hx hb dX4_of_5 rfl hl (by decide) rfl (fun ls hl => ?_)
  refine lv_aload_n hx hb dX4_of_6 rfl (lv_at hl 1 rfl) ?_
  refine lv_iload_n hx hb dX4_of_7 rfl (lv_at hl 0 rfl) ?_
  refine lv_if_ne (tgt := 15) hx hb dX4_of_8 (by decide) (fun _ => ?_) (fun h => absurd h (by decide))
  refine lv_iload_n hx hb dX4_of_15 rfl (lv_at hl 3 rfl) ?_
  refine lv_iconst (v := 0) hx hb dX4_of_16 (by decide) ?_
  refine lv_iconst (v := 3) hx hb dX4_of_17 (by decide) ?_
  have hPc := hP.sub (ws' := []) [] rfl
  have hDc := hD.sub (ws' := []) [] (by decide) rfl
  have hFc := va_free (wc := []) hD hS hA [] rfl
  refine va_calli (va_runS (As := [.int 3, .int 0, .int 3]) (rest := [.ref om]) ⟨hx, hb, hml, hown, (dr_words hts s.drawn)⟩ (m_X4_in l G q H.size 3 0 3) (va_cwS 3 (dr_words hts s.drawn) gX4_of_X4_in rfl rfl rfl (by decide +kernel) ⟨Nat.le_of_ble_eq_true rfl, Nat.le_of_ble_eq_true rfl⟩) ⟨preW_blind, preW_start (s := s.setDrawn s.drawn) hPc hK hDc (hNF.drawn s.drawn)⟩ rfl rfl hl.1 rfl (lv_room (Nat.le_of_ble_eq_true rfl)) dX4_of_18 ⟨(Nat.zero_le _), (Nat.zero_le _)⟩) hS (fun q _ h => hFc q h) hFc (fun ri4 u9 t9 H1 locs ht9 hv9 hw hB9 hz9 hk9 hS => ?_)
  obtain ⟨⟩ := u9
  obtain ⟨hP1, hD1⟩ := hB9
  rw [ht9] at hP1
  obtain ⟨hP, hD⟩ := va_join (wr := [((am 11), aI q 6 Hi), ((am 17), aD q 96 Es), (om, .inr (4, [.int th, .int sa, .ref (am 0), .ref (am 1), .double mi, .ref (am 2), .ref (am 3), .ref (am 4), .int (nI nf), .ref (am 5), .ref (am 6), .ref (am 7), .ref (am 8), .ref (am 9), .ref (am 10), .ref (am 11), .ref (am 12), .ref (am 13), .ref (am 14), .ref (am 15), .ref (am 16), .ref (am 17), .ref (am 18), .ref (am 19)]))]) (w1 := []) hP hD [] [0, 1, 2] rfl rfl (by decide) (by decide) hk9 hFc hP1 hD1
  generalize H1 = H at hP hS ⊢
  have hP : va_P G vwCl [((am 11), aI q 6 Hi), ((am 17), aD q 96 Es), (om, .inr (4, [.int th, .int sa, .ref (am 0), .ref (am 1), .double mi, .ref (am 2), .ref (am 3), .ref (am 4), .int (nI nf), .ref (am 5), .ref (am 6), .ref (am 7), .ref (am 8), .ref (am 9), .ref (am 10), .ref (am 11), .ref (am 12), .ref (am 13), .ref (am 14), .ref (am 15), .ref (am 16), .ref (am 17), .ref (am 18), .ref (am 19)]))] H := hP
  have hD : va_D A [((am 11), aI q 6 Hi), ((am 17), aD q 96 Es), (om, .inr (4, [.int th, .int sa, .ref (am 0), .ref (am 1), .double mi, .ref (am 2), .ref (am 3), .ref (am 4), .int (nI nf), .ref (am 5), .ref (am 6), .ref (am 7), .ref (am 8), .ref (am 9), .ref (am 10), .ref (am 11), .ref (am 12), .ref (am 13), .ref (am 14), .ref (am 15), .ref (am 16), .ref (am 17), .ref (am 18), .ref (am 19)]))] := hD
  obtain rfl : ri4 = 1 := hw.trans (if_pos (by decide))
  refine lv_if_eq (tgt := 28) hx hb dX4_of_21 (by decide) (fun h => absurd h (by decide)) (fun _ => ?_)
  refine lv_iconst (v := 0) hx hb dX4_of_24 (by decide) ?_
  refine lv_goto (tgt := 29) hx hb dX4_of_25 (by decide) ?_
  have hPc := hP.sub (ws' := [(om, .inr (4, [.int th, .int sa, .ref (am 0), .ref (am 1), .double mi, .ref (am 2), .ref (am 3), .ref (am 4), .int (nI nf), .ref (am 5), .ref (am 6), .ref (am 7), .ref (am 8), .ref (am 9), .ref (am 10), .ref (am 11), .ref (am 12), .ref (am 13), .ref (am 14), .ref (am 15), .ref (am 16), .ref (am 17), .ref (am 18), .ref (am 19)]))]) [2] rfl
  have hDc := hD.sub (ws' := [(om, .inr (4, [.int th, .int sa, .ref (am 0), .ref (am 1), .double mi, .ref (am 2), .ref (am 3), .ref (am 4), .int (nI nf), .ref (am 5), .ref (am 6), .ref (am 7), .ref (am 8), .ref (am 9), .ref (am 10), .ref (am 11), .ref (am 12), .ref (am 13), .ref (am 14), .ref (am 15), .ref (am 16), .ref (am 17), .ref (am 18), .ref (am 19)]))]) [2] (by decide) rfl
  have hFc := va_free (wc := [(om, .inr (4, [.int th, .int sa, .ref (am 0), .ref (am 1), .double mi, .ref (am 2), .ref (am 3), .ref (am 4), .int (nI nf), .ref (am 5), .ref (am 6), .ref (am 7), .ref (am 8), .ref (am 9), .ref (am 10), .ref (am 11), .ref (am 12), .ref (am 13), .ref (am 14), .ref (am 15), .ref (am 16), .ref (am 17), .ref (am 18), .ref (am 19)]))]) hD hS hA [2] rfl
  refine va_calli (va_runV (As := [.int 0]) (rest := []) ⟨hx, hb, hml, hown, (dr_words hts s.drawn)⟩ (m_X4_goesWell l G q H.size om am th sa (nI nf) mi 0) (cwV 1 (dr_words hts s.drawn) gX4_of_X4_goesWell rfl rfl rfl (by decide +kernel) ⟨Nat.le_of_ble_eq_true rfl, Nat.le_of_ble_eq_true rfl⟩) ⟨preW_blind, (va_recv hK hPc (ci := 4) (q0 := 0) rfl rfl), preW_start (s := s.setDrawn s.drawn) hPc hK hDc (hNF.drawn s.drawn)⟩ rfl rfl hl.1 rfl (lv_room (Nat.le_of_ble_eq_true rfl)) dX4_of_29 ⟨(Nat.zero_le _), (Nat.zero_le _)⟩) hS (fun q _ h => hFc q h) hFc (fun gr7 u9 t9 H1 locs ht9 hv9 hw hB9 hz9 hk9 hS => ?_)
  obtain ⟨⟩ := u9
  obtain ⟨hP1, hD1⟩ := hB9
  rw [ht9] at hP1
  obtain ⟨hP, hD⟩ := va_join (wr := [((am 11), aI q 6 Hi), ((am 17), aD q 96 Es)]) (w1 := [(om, .inr (4, [.int 0, .int sa, .ref (am 0), .ref (am 1), .double mi, .ref (am 2), .ref (am 3), .ref (am 4), .int (nI nf), .ref (am 5), .ref (am 6), .ref (am 7), .ref (am 8), .ref (am 9), .ref (am 10), .ref (am 11), .ref (am 12), .ref (am 13), .ref (am 14), .ref (am 15), .ref (am 16), .ref (am 17), .ref (am 18), .ref (am 19)]))]) hP hD [2] [0, 1] rfl rfl (by decide) (by decide) hk9 hFc hP1 hD1
  generalize H1 = H at hP hS ⊢
  have hP : va_P G vwCl [((am 11), aI q 6 Hi), ((am 17), aD q 96 Es), (om, .inr (4, [.int 0, .int sa, .ref (am 0), .ref (am 1), .double mi, .ref (am 2), .ref (am 3), .ref (am 4), .int (nI nf), .ref (am 5), .ref (am 6), .ref (am 7), .ref (am 8), .ref (am 9), .ref (am 10), .ref (am 11), .ref (am 12), .ref (am 13), .ref (am 14), .ref (am 15), .ref (am 16), .ref (am 17), .ref (am 18), .ref (am 19)]))] H := hP
  have hD : va_D A [((am 11), aI q 6 Hi), ((am 17), aD q 96 Es), (om, .inr (4, [.int 0, .int sa, .ref (am 0), .ref (am 1), .double mi, .ref (am 2), .ref (am 3), .ref (am 4), .int (nI nf), .ref (am 5), .ref (am 6), .ref (am 7), .ref (am 8), .ref (am 9), .ref (am 10), .ref (am 11), .ref (am 12), .ref (am 13), .ref (am 14), .ref (am 15), .ref (am 16), .ref (am 17), .ref (am 18), .ref (am 19)]))] := hD
  obtain rfl : gr7 = 1 := hw.trans (by decide)
  refine lv_if_ne (tgt := 37) hx hb dX4_of_32 (by decide) (fun _ => ?_) (fun h => absurd h (by decide))
  refine lv_iload_n hx hb dX4_of_37 rfl (lv_at hl 3 rfl) ?_
  refine lv_if_ne (tgt := 50) hx hb dX4_of_38 (by decide) (fun _ => ?_) (fun h => absurd h (by decide))
  refine lv_iload_n hx hb dX4_of_50 rfl (lv_at hl 3 rfl) ?_
  refine lv_iconst (v := 1) hx hb dX4_of_51 (by decide) ?_
  refine lv_icmp_ne (tgt := 64) hx hb dX4_of_52 (by decide) (fun _ => ?_) (fun h => absurd h (by decide))
  refine lv_iload_n hx hb dX4_of_64 rfl (lv_at hl 3 rfl) ?_
  refine lv_iconst (v := 2) hx hb dX4_of_65 (by decide) ?_
  refine lv_icmp_ne (tgt := 77) hx hb dX4_of_66 (by decide) (fun _ => ?_) (fun h => absurd h (by decide))
  refine lv_aload_n hx hb dX4_of_77 rfl (lv_at hl 1 rfl) ?_
  refine lv_iload_n hx hb dX4_of_78 rfl (lv_at hl 2 rfl) ?_
  have hPc := hP.sub (ws' := [(om, .inr (4, [.int 0, .int sa, .ref (am 0), .ref (am 1), .double mi, .ref (am 2), .ref (am 3), .ref (am 4), .int (nI nf), .ref (am 5), .ref (am 6), .ref (am 7), .ref (am 8), .ref (am 9), .ref (am 10), .ref (am 11), .ref (am 12), .ref (am 13), .ref (am 14), .ref (am 15), .ref (am 16), .ref (am 17), .ref (am 18), .ref (am 19)])), ((am 11), aI q 6 Hi), ((am 17), aD q 96 Es)]) [2, 0, 1] rfl
  have hDc := hD.sub (ws' := [(om, .inr (4, [.int 0, .int sa, .ref (am 0), .ref (am 1), .double mi, .ref (am 2), .ref (am 3), .ref (am 4), .int (nI nf), .ref (am 5), .ref (am 6), .ref (am 7), .ref (am 8), .ref (am 9), .ref (am 10), .ref (am 11), .ref (am 12), .ref (am 13), .ref (am 14), .ref (am 15), .ref (am 16), .ref (am 17), .ref (am 18), .ref (am 19)])), ((am 11), aI q 6 Hi), ((am 17), aD q 96 Es)]) [2, 0, 1] (by decide) rfl
  have hFc := va_free (wc := [(om, .inr (4, [.int 0, .int sa, .ref (am 0), .ref (am 1), .double mi, .ref (am 2), .ref (am 3), .ref (am 4), .int (nI nf), .ref (am 5), .ref (am 6), .ref (am 7), .ref (am 8), .ref (am 9), .ref (am 10), .ref (am 11), .ref (am 12), .ref (am 13), .ref (am 14), .ref (am 15), .ref (am 16), .ref (am 17), .ref (am 18), .ref (am 19)])), ((am 11), aI q 6 Hi), ((am 17), aD q 96 Es)]) hD hS hA [2, 0, 1] rfl
  refine va_calldD hd0 (va_runV_D (As := [.int (nI fx)]) (rest := []) ⟨hx, hb, hml, hown, (dr_words hts s.drawn)⟩ (m_X4_power l G q H.size om am 0 sa mi nf fx tt Hi Es (by omega) hH htt) (cwV 1 (dr_words hts s.drawn) gX4_of_X4_power rfl rfl rfl (by decide +kernel) ⟨Nat.le_of_ble_eq_true rfl, Nat.le_of_ble_eq_true rfl⟩) ⟨preW_blind, (va_recv hK hPc (ci := 4) (q0 := 0) rfl rfl), preW_start (s := s.setDrawn s.drawn) hPc hK hDc (hNF.drawn s.drawn)⟩ rfl rfl hl.1 rfl (lv_room (Nat.le_of_ble_eq_true rfl)) dX4_of_79 ⟨(Nat.zero_le _), (Nat.zero_le _)⟩) hS (fun q _ h => hFc q h) hFc (fun ro u9 t9 H1 locs ht9 hv9 hw hB9 hz9 hk9 hS du13 hu13 => ?_)
  obtain ⟨⟩ := u9
  obtain ⟨hP1, hD1⟩ := hB9
  rw [ht9] at hP1
  obtain ⟨hP, hD⟩ := va_join (wr := []) (w1 := [(om, .inr (4, [.int 0, .int sa, .ref (am 0), .ref (am 1), .double mi, .ref (am 2), .ref (am 3), .ref (am 4), .int (nI nf), .ref (am 5), .ref (am 6), .ref (am 7), .ref (am 8), .ref (am 9), .ref (am 10), .ref (am 11), .ref (am 12), .ref (am 13), .ref (am 14), .ref (am 15), .ref (am 16), .ref (am 17), .ref (am 18), .ref (am 19)])), ((am 11), aI q 6 Hi), ((am 17), aD q 96 Es)]) hP hD [2, 0, 1] [] rfl rfl (by decide) (by decide) hk9 hFc hP1 hD1
  generalize H1 = H at hP hS ⊢
  have hP : va_P G vwCl [(om, .inr (4, [.int 0, .int sa, .ref (am 0), .ref (am 1), .double mi, .ref (am 2), .ref (am 3), .ref (am 4), .int (nI nf), .ref (am 5), .ref (am 6), .ref (am 7), .ref (am 8), .ref (am 9), .ref (am 10), .ref (am 11), .ref (am 12), .ref (am 13), .ref (am 14), .ref (am 15), .ref (am 16), .ref (am 17), .ref (am 18), .ref (am 19)])), ((am 11), aI q 6 Hi), ((am 17), aD q 96 Es)] H := hP
  have hD : va_D A [(om, .inr (4, [.int 0, .int sa, .ref (am 0), .ref (am 1), .double mi, .ref (am 2), .ref (am 3), .ref (am 4), .int (nI nf), .ref (am 5), .ref (am 6), .ref (am 7), .ref (am 8), .ref (am 9), .ref (am 10), .ref (am 11), .ref (am 12), .ref (am 13), .ref (am 14), .ref (am 15), .ref (am 16), .ref (am 17), .ref (am 18), .ref (am 19)])), ((am 11), aI q 6 Hi), ((am 17), aD q 96 Es)] := hD
  have hro := hw
  have hP9 := hP
  have hD9 := hD
  refine W.endD hu13 ?_
  exact W.dret (v := ro) hx hb hr (fun t ht hW => ⟨⟨ro, (), rfl, hro, by rw [ht]; exact hP9, hD9⟩, hS.F ht⟩) hS.2.2 dX4_of_82

theorem in_X4_square_X4 : ∀ w ∈ wsX40, w ∈ wsX4_square := by decide +kernel
set_option maxHeartbeats 4000000 in
set_option maxRecDepth 100000 in
/-- square: where it throws -/
theorem m_X4_square_no (l : Launch) (G : va_G) (q : Nat → ClassId) (sz : Nat) (om : Nat) (am : Nat → Nat) (th sa : Int32) (mi : UInt64) (nf : Nat) (f xa xb : Int32) (Ki Ti : Nat → Int32) (hnf : nf ≤ 6) (hc : ¬ squareC f xa xb (nI nf) (Ti (tn f)) (Ki (tn f)) = 0) : Met l yX4_square wsX4_square ({ frames := 2, cells := 0, slots := 0, locals := 43 } : Jvm.Room) (PreW G q [.ref om, .int f, .int xa, .int xb] [(om, .inr (4, [.int th, .int sa, .ref (am 0), .ref (am 1), .double mi, .ref (am 2), .ref (am 3), .ref (am 4), .int (nI nf), .ref (am 5), .ref (am 6), .ref (am 7), .ref (am 8), .ref (am 9), .ref (am 10), .ref (am 11), .ref (am 12), .ref (am 13), .ref (am 14), .ref (am 15), .ref (am 16), .ref (am 17), .ref (am 18), .ref (am 19)])), ((am 5), aI q 6 Ki), ((am 6), aI q 6 Ti)] sz) (va_Qd (fun (_ : UInt64) (u : Int32) => u = squareC f xa xb (nI nf) (Ti (tn f)) (Ki (tn f))) (fun (u : Int32) t => EndA G (va_A [(om, .inr (4, [.int th, .int sa, .ref (am 0), .ref (am 1), .double mi, .ref (am 2), .ref (am 3), .ref (am 4), .int (nI nf), .ref (am 5), .ref (am 6), .ref (am 7), .ref (am 8), .ref (am 9), .ref (am 10), .ref (am 11), .ref (am 12), .ref (am 13), .ref (am 14), .ref (am 15), .ref (am 16), .ref (am 17), .ref (am 18), .ref (am 19)])), ((am 5), aI q 6 Ki), ((am 6), aI q 6 Ti)] sz) [(om, .inr (4, [.int u, .int sa, .ref (am 0), .ref (am 1), .double mi, .ref (am 2), .ref (am 3), .ref (am 4), .int (nI nf), .ref (am 5), .ref (am 6), .ref (am 7), .ref (am 8), .ref (am 9), .ref (am 10), .ref (am 11), .ref (am 12), .ref (am 13), .ref (am 14), .ref (am 15), .ref (am 16), .ref (am 17), .ref (am 18), .ref (am 19)])), ((am 5), aI q 6 Ki), ((am 6), aI q 6 Ti)] t) (va_A [(om, .inr (4, [.int th, .int sa, .ref (am 0), .ref (am 1), .double mi, .ref (am 2), .ref (am 3), .ref (am 4), .int (nI nf), .ref (am 5), .ref (am 6), .ref (am 7), .ref (am 8), .ref (am 9), .ref (am 10), .ref (am 11), .ref (am 12), .ref (am 13), .ref (am 14), .ref (am 15), .ref (am 16), .ref (am 17), .ref (am 18), .ref (am 19)])), ((am 5), aI q 6 Ki), ((am 6), aI q 6 Ti)] sz)) 0 0 (va_A [(om, .inr (4, [.int th, .int sa, .ref (am 0), .ref (am 1), .double mi, .ref (am 2), .ref (am 3), .ref (am 4), .int (nI nf), .ref (am 5), .ref (am 6), .ref (am 7), .ref (am 8), .ref (am 9), .ref (am 10), .ref (am 11), .ref (am 12), .ref (am 13), .ref (am 14), .ref (am 15), .ref (am 16), .ref (am 17), .ref (am 18), .ref (am 19)])), ((am 5), aI q 6 Ki), ((am 6), aI q 6 Ti)] sz) := by
  refine Met.ofW (cc := cX4_square) (maxL := 5) (ret := (some .double)) (by decide +kernel) rfl ?_
  intro p e s m args below meth c s₁ B hml hv
  obtain ⟨rfl, hsz, hP, hK, hD0, hNF⟩ := hv
  have hx := B.exec
  have hb := B.bytes
  have hr := B.returns
  have hts := atoms_spec (ws := wsX4_square) B.pre
  have hown : s.vm.findClass RX4 = some m.cls := findClass_of_methodNamed B.named
  have hlocks := B.notSynchronized
  subst hsz
  have hD := hD0.self (sz := s.heap.size)
  generalize hAe : va_A [(om, .inr (4, [.int th, .int sa, .ref (am 0), .ref (am 1), .double mi, .ref (am 2), .ref (am 3), .ref (am 4), .int (nI nf), .ref (am 5), .ref (am 6), .ref (am 7), .ref (am 8), .ref (am 9), .ref (am 10), .ref (am 11), .ref (am 12), .ref (am 13), .ref (am 14), .ref (am 15), .ref (am 16), .ref (am 17), .ref (am 18), .ref (am 19)])), ((am 5), aI q 6 Ki), ((am 6), aI q 6 Ti)] s.heap.size = A at hD ⊢
  have hA : ∀ q : Nat, s.heap.size ≤ q → A q := fun q h => by rw [← hAe]; exact Or.inr h
  have hS : va_S A s.heap s.heap [] := va_S.rf
  have hP : va_P G vwCl [(om, .inr (4, [.int th, .int sa, .ref (am 0), .ref (am 1), .double mi, .ref (am 2), .ref (am 3), .ref (am 4), .int (nI nf), .ref (am 5), .ref (am 6), .ref (am 7), .ref (am 8), .ref (am 9), .ref (am 10), .ref (am 11), .ref (am 12), .ref (am 13), .ref (am 14), .ref (am 15), .ref (am 16), .ref (am 17), .ref (am 18), .ref (am 19)])), ((am 5), aI q 6 Ki), ((am 6), aI q 6 Ti)] s.heap := hP
  have hl := lv_entry ([.ref om, .int f, .int xa, .int xb]) (n := 5) (Nat.le_of_ble_eq_true rfl)
  rw [lg_entry_eq]
  generalize (lg_sl ([.ref om, .int f, .int xa, .int xb]) ++ List.replicate (5 - (lg_sl ([.ref om, .int f, .int xa, .int xb])).length) Slot.unset).toArray = ls at hl ⊢
  have hl : lv_has ls 5 [(0, .ref om), (1, .int f), (2, .int xa), (3, .int xb)] := hl
  refine lv_aload_n hx hb dX4_square_0 rfl (lv_at hl 0 rfl) ?_
  refine lv_iload_n hx hb dX4_square_1 rfl (lv_at hl 1 rfl) ?_
  have hPc := hP.sub (ws' := [(om, .inr (4, [.int th, .int sa, .ref (am 0), .ref (am 1), .double mi, .ref (am 2), .ref (am 3), .ref (am 4), .int (nI nf), .ref (am 5), .ref (am 6), .ref (am 7), .ref (am 8), .ref (am 9), .ref (am 10), .ref (am 11), .ref (am 12), .ref (am 13), .ref (am 14), .ref (am 15), .ref (am 16), .ref (am 17), .ref (am 18), .ref (am 19)]))]) [0] rfl
  have hDc := hD.sub (ws' := [(om, .inr (4, [.int th, .int sa, .ref (am 0), .ref (am 1), .double mi, .ref (am 2), .ref (am 3), .ref (am 4), .int (nI nf), .ref (am 5), .ref (am 6), .ref (am 7), .ref (am 8), .ref (am 9), .ref (am 10), .ref (am 11), .ref (am 12), .ref (am 13), .ref (am 14), .ref (am 15), .ref (am 16), .ref (am 17), .ref (am 18), .ref (am 19)]))]) [0] (by decide) rfl
  have hFc := va_free (wc := [(om, .inr (4, [.int th, .int sa, .ref (am 0), .ref (am 1), .double mi, .ref (am 2), .ref (am 3), .ref (am 4), .int (nI nf), .ref (am 5), .ref (am 6), .ref (am 7), .ref (am 8), .ref (am 9), .ref (am 10), .ref (am 11), .ref (am 12), .ref (am 13), .ref (am 14), .ref (am 15), .ref (am 16), .ref (am 17), .ref (am 18), .ref (am 19)]))]) hD hS hA [0] rfl
  refine va_calli (va_runV (As := [.int f]) (rest := []) ⟨hx, hb, hml, hown, hts⟩ (m_X4_isFilter l G q s.heap.size om am th sa (nI nf) mi f) (cwV 1 hts gX4_square_X4_isFilter rfl rfl rfl (by decide +kernel) ⟨Nat.le_of_ble_eq_true rfl, Nat.le_of_ble_eq_true rfl⟩) ⟨preW_blind, (va_recv hK hPc (ci := 4) (q0 := 0) rfl rfl), preW_start hPc hK hDc hNF⟩ rfl rfl hl.1 rfl (lv_room (Nat.le_of_ble_eq_true rfl)) dX4_square_2 ⟨(Nat.zero_le _), (Nat.zero_le _)⟩) hS (fun q _ h => hFc q h) hFc (fun rf1 u9 t9 H1 locs ht9 hv9 hw hB9 hz9 hk9 hS => ?_)
  obtain ⟨⟩ := u9
  obtain ⟨hP1, hD1⟩ := hB9
  rw [ht9] at hP1
  obtain ⟨hP, hD⟩ := va_join (wr := [((am 5), aI q 6 Ki), ((am 6), aI q 6 Ti)]) (w1 := [(om, .inr (4, [.int th, .int sa, .ref (am 0), .ref (am 1), .double mi, .ref (am 2), .ref (am 3), .ref (am 4), .int (nI nf), .ref (am 5), .ref (am 6), .ref (am 7), .ref (am 8), .ref (am 9), .ref (am 10), .ref (am 11), .ref (am 12), .ref (am 13), .ref (am 14), .ref (am 15), .ref (am 16), .ref (am 17), .ref (am 18), .ref (am 19)]))]) hP hD [0] [1, 2] rfl rfl (by decide) (by decide) hk9 hFc hP1 hD1
  generalize H1 = H at hP hS ⊢
  have hP : va_P G vwCl [((am 5), aI q 6 Ki), ((am 6), aI q 6 Ti), (om, .inr (4, [.int th, .int sa, .ref (am 0), .ref (am 1), .double mi, .ref (am 2), .ref (am 3), .ref (am 4), .int (nI nf), .ref (am 5), .ref (am 6), .ref (am 7), .ref (am 8), .ref (am 9), .ref (am 10), .ref (am 11), .ref (am 12), .ref (am 13), .ref (am 14), .ref (am 15), .ref (am 16), .ref (am 17), .ref (am 18), .ref (am 19)]))] H := hP
  have hD : va_D A [((am 5), aI q 6 Ki), ((am 6), aI q 6 Ti), (om, .inr (4, [.int th, .int sa, .ref (am 0), .ref (am 1), .double mi, .ref (am 2), .ref (am 3), .ref (am 4), .int (nI nf), .ref (am 5), .ref (am 6), .ref (am 7), .ref (am 8), .ref (am 9), .ref (am 10), .ref (am 11), .ref (am 12), .ref (am 13), .ref (am 14), .ref (am 15), .ref (am 16), .ref (am 17), .ref (am 18), .ref (am 19)]))] := hD
  by_cases ci3 : isF f (nI nf)
  rotate_left
  · skip
    obtain rfl : rf1 = 0 := hw.trans (if_neg ci3)
    refine lv_if_eq (tgt := 44) hx hb dX4_square_5 (by decide) (fun _ => ?_) (fun h => absurd (by decide) h)
    refine lv_iconst (v := 0) hx hb dX4_square_44 (by decide) ?_
    refine lv_istore (lv' := [(4, .int 0), (0, .ref om), (1, .int f), (2, .int xa), (3, .int xb)]) hx hb dX4_square_45 hl (by decide) rfl (fun ls hl => ?_)
    refine lv_aload_n hx hb dX4_square_47 rfl (lv_at hl 1 rfl) ?_
    refine lv_iload hx hb dX4_square_48 (lv_at hl 0 rfl) ?_
    refine lv_if_ne (tgt := 57) hx hb dX4_square_50 (by decide) (fun h => absurd (by decide) h) (fun _ => ?_)
    refine lv_iconst (v := 1) hx hb dX4_square_53 (by decide) ?_
    refine lv_goto (tgt := 72) hx hb dX4_square_54 (by decide) ?_
    have hPc := hP.sub (ws' := [(om, .inr (4, [.int th, .int sa, .ref (am 0), .ref (am 1), .double mi, .ref (am 2), .ref (am 3), .ref (am 4), .int (nI nf), .ref (am 5), .ref (am 6), .ref (am 7), .ref (am 8), .ref (am 9), .ref (am 10), .ref (am 11), .ref (am 12), .ref (am 13), .ref (am 14), .ref (am 15), .ref (am 16), .ref (am 17), .ref (am 18), .ref (am 19)]))]) [2] rfl
    have hDc := hD.sub (ws' := [(om, .inr (4, [.int th, .int sa, .ref (am 0), .ref (am 1), .double mi, .ref (am 2), .ref (am 3), .ref (am 4), .int (nI nf), .ref (am 5), .ref (am 6), .ref (am 7), .ref (am 8), .ref (am 9), .ref (am 10), .ref (am 11), .ref (am 12), .ref (am 13), .ref (am 14), .ref (am 15), .ref (am 16), .ref (am 17), .ref (am 18), .ref (am 19)]))]) [2] (by decide) rfl
    have hFc := va_free (wc := [(om, .inr (4, [.int th, .int sa, .ref (am 0), .ref (am 1), .double mi, .ref (am 2), .ref (am 3), .ref (am 4), .int (nI nf), .ref (am 5), .ref (am 6), .ref (am 7), .ref (am 8), .ref (am 9), .ref (am 10), .ref (am 11), .ref (am 12), .ref (am 13), .ref (am 14), .ref (am 15), .ref (am 16), .ref (am 17), .ref (am 18), .ref (am 19)]))]) hD hS hA [2] rfl
    refine va_calli (va_runV (As := [.int 1]) (rest := []) ⟨hx, hb, hml, hown, hts⟩ (m_X4_goesWell l G q H.size om am th sa (nI nf) mi 1) (cwV 1 hts gX4_square_X4_goesWell rfl rfl rfl (by decide +kernel) ⟨Nat.le_of_ble_eq_true rfl, Nat.le_of_ble_eq_true rfl⟩) ⟨preW_blind, (va_recv hK hPc (ci := 4) (q0 := 0) rfl rfl), preW_start hPc hK hDc hNF⟩ rfl rfl hl.1 rfl (lv_room (Nat.le_of_ble_eq_true rfl)) dX4_square_72 ⟨(Nat.zero_le _), (Nat.zero_le _)⟩) hS (fun q _ h => hFc q h) hFc (fun gr6 u9 t9 H1 locs ht9 hv9 hw hB9 hz9 hk9 hS => ?_)
    obtain ⟨⟩ := u9
    obtain ⟨hP1, hD1⟩ := hB9
    rw [ht9] at hP1
    obtain ⟨hP, hD⟩ := va_join (wr := [((am 5), aI q 6 Ki), ((am 6), aI q 6 Ti)]) (w1 := [(om, .inr (4, [.int 1, .int sa, .ref (am 0), .ref (am 1), .double mi, .ref (am 2), .ref (am 3), .ref (am 4), .int (nI nf), .ref (am 5), .ref (am 6), .ref (am 7), .ref (am 8), .ref (am 9), .ref (am 10), .ref (am 11), .ref (am 12), .ref (am 13), .ref (am 14), .ref (am 15), .ref (am 16), .ref (am 17), .ref (am 18), .ref (am 19)]))]) hP hD [2] [0, 1] rfl rfl (by decide) (by decide) hk9 hFc hP1 hD1
    generalize H1 = H at hP hS ⊢
    have hP : va_P G vwCl [((am 5), aI q 6 Ki), ((am 6), aI q 6 Ti), (om, .inr (4, [.int 1, .int sa, .ref (am 0), .ref (am 1), .double mi, .ref (am 2), .ref (am 3), .ref (am 4), .int (nI nf), .ref (am 5), .ref (am 6), .ref (am 7), .ref (am 8), .ref (am 9), .ref (am 10), .ref (am 11), .ref (am 12), .ref (am 13), .ref (am 14), .ref (am 15), .ref (am 16), .ref (am 17), .ref (am 18), .ref (am 19)]))] H := hP
    have hD : va_D A [((am 5), aI q 6 Ki), ((am 6), aI q 6 Ti), (om, .inr (4, [.int 1, .int sa, .ref (am 0), .ref (am 1), .double mi, .ref (am 2), .ref (am 3), .ref (am 4), .int (nI nf), .ref (am 5), .ref (am 6), .ref (am 7), .ref (am 8), .ref (am 9), .ref (am 10), .ref (am 11), .ref (am 12), .ref (am 13), .ref (am 14), .ref (am 15), .ref (am 16), .ref (am 17), .ref (am 18), .ref (am 19)]))] := hD
    obtain rfl : gr6 = 0 := hw.trans (by decide)
    refine lv_if_eq (tgt := 96) hx hb dX4_square_75 (by decide) (fun _ => ?_) (fun h => absurd (by decide) h)
    refine lv_dc0 hx hb dX4_square_96 ?_
    have hP := hP.sub (ws' := [(om, .inr (4, [.int 1, .int sa, .ref (am 0), .ref (am 1), .double mi, .ref (am 2), .ref (am 3), .ref (am 4), .int (nI nf), .ref (am 5), .ref (am 6), .ref (am 7), .ref (am 8), .ref (am 9), .ref (am 10), .ref (am 11), .ref (am 12), .ref (am 13), .ref (am 14), .ref (am 15), .ref (am 16), .ref (am 17), .ref (am 18), .ref (am 19)])), ((am 5), aI q 6 Ki), ((am 6), aI q 6 Ti)]) [2, 0, 1] rfl
    have hD := hD.sub (ws' := [(om, .inr (4, [.int 1, .int sa, .ref (am 0), .ref (am 1), .double mi, .ref (am 2), .ref (am 3), .ref (am 4), .int (nI nf), .ref (am 5), .ref (am 6), .ref (am 7), .ref (am 8), .ref (am 9), .ref (am 10), .ref (am 11), .ref (am 12), .ref (am 13), .ref (am 14), .ref (am 15), .ref (am 16), .ref (am 17), .ref (am 18), .ref (am 19)])), ((am 5), aI q 6 Ki), ((am 6), aI q 6 Ti)]) [2, 0, 1] (by decide) rfl
    have hP9 := hP
    have hD9 := hD
    exact W.dret (v := 0) hx hb hr (fun t ht hW => ⟨⟨0, 1, rfl, by dsimp only; unfold squareC; rw [if_neg ci3], by rw [ht]; exact hP9, hD9⟩, hS.F ht⟩) hS.2.2 dX4_square_97
  obtain rfl : rf1 = 1 := hw.trans (if_pos ci3)
  refine lv_if_eq (tgt := 44) hx hb dX4_square_5 (by decide) (fun h => absurd h (by decide)) (fun _ => ?_)
  refine lv_iload_n hx hb dX4_square_8 rfl (lv_at hl 2 rfl) ?_
  refine lv_iconst (v := 0) hx hb dX4_square_9 (by decide) ?_
  refine lv_aload_n hx hb dX4_square_10 rfl (lv_at hl 0 rfl) ?_
  refine va_get (D := G) (ci := 4) (v := .ref (am 6)) (C := RX4) (T := TX4) (N := 24) hx hb hts in_X4_square_X4 hown hK hP 2 rfl rfl 10 (by decide) (hts (.fieldLink RX4 29 "EchoBenchModel" "taps" "[I") (by decide +kernel)) (fun _ h9 => h9) rfl dX4_square_11 ?_
  refine lv_iload_n hx hb dX4_square_14 rfl (lv_at hl 1 rfl) ?_
  have hf := in_m1 (by omega) ci3
  refine va_ialdJ hx hb hK hP 1 0 rfl rfl (j := (tn f)) hf.1 (by omega) (by decide) dX4_square_15 ?_
  refine lv_iconst (v := 1) hx hb dX4_square_16 (by decide) ?_
  refine lv_isub hx hb dX4_square_17 ?_
  have hPc := hP.sub (ws' := []) [] rfl
  have hDc := hD.sub (ws' := []) [] (by decide) rfl
  have hFc := va_free (wc := []) hD hS hA [] rfl
  refine va_calli (va_runS (As := [.int xa, .int 0, .int (Ti (tn f) - 1)]) (rest := []) ⟨hx, hb, hml, hown, hts⟩ (m_X4_in l G q H.size xa 0 (Ti (tn f) - 1)) (va_cwS 3 hts gX4_square_X4_in rfl rfl rfl (by decide +kernel) ⟨Nat.le_of_ble_eq_true rfl, Nat.le_of_ble_eq_true rfl⟩) ⟨preW_blind, preW_start hPc hK hDc hNF⟩ rfl rfl hl.1 rfl (lv_room (Nat.le_of_ble_eq_true rfl)) dX4_square_18 ⟨(Nat.zero_le _), (Nat.zero_le _)⟩) hS (fun q _ h => hFc q h) hFc (fun ri10 u9 t9 H1 locs ht9 hv9 hw hB9 hz9 hk9 hS => ?_)
  obtain ⟨⟩ := u9
  obtain ⟨hP1, hD1⟩ := hB9
  rw [ht9] at hP1
  obtain ⟨hP, hD⟩ := va_join (wr := [((am 5), aI q 6 Ki), ((am 6), aI q 6 Ti), (om, .inr (4, [.int th, .int sa, .ref (am 0), .ref (am 1), .double mi, .ref (am 2), .ref (am 3), .ref (am 4), .int (nI nf), .ref (am 5), .ref (am 6), .ref (am 7), .ref (am 8), .ref (am 9), .ref (am 10), .ref (am 11), .ref (am 12), .ref (am 13), .ref (am 14), .ref (am 15), .ref (am 16), .ref (am 17), .ref (am 18), .ref (am 19)]))]) (w1 := []) hP hD [] [0, 1, 2] rfl rfl (by decide) (by decide) hk9 hFc hP1 hD1
  generalize H1 = H at hP hS ⊢
  have hP : va_P G vwCl [((am 5), aI q 6 Ki), ((am 6), aI q 6 Ti), (om, .inr (4, [.int th, .int sa, .ref (am 0), .ref (am 1), .double mi, .ref (am 2), .ref (am 3), .ref (am 4), .int (nI nf), .ref (am 5), .ref (am 6), .ref (am 7), .ref (am 8), .ref (am 9), .ref (am 10), .ref (am 11), .ref (am 12), .ref (am 13), .ref (am 14), .ref (am 15), .ref (am 16), .ref (am 17), .ref (am 18), .ref (am 19)]))] H := hP
  have hD : va_D A [((am 5), aI q 6 Ki), ((am 6), aI q 6 Ti), (om, .inr (4, [.int th, .int sa, .ref (am 0), .ref (am 1), .double mi, .ref (am 2), .ref (am 3), .ref (am 4), .int (nI nf), .ref (am 5), .ref (am 6), .ref (am 7), .ref (am 8), .ref (am 9), .ref (am 10), .ref (am 11), .ref (am 12), .ref (am 13), .ref (am 14), .ref (am 15), .ref (am 16), .ref (am 17), .ref (am 18), .ref (am 19)]))] := hD
  by_cases ci12 : 0 ≤ xa ∧ xa ≤ (Ti (tn f) - 1)
  rotate_left
  · skip
    obtain rfl : ri10 = 0 := hw.trans (if_neg ci12)
    refine lv_if_eq (tgt := 44) hx hb dX4_square_21 (by decide) (fun _ => ?_) (fun h => absurd (by decide) h)
    refine lv_iconst (v := 0) hx hb dX4_square_44 (by decide) ?_
    refine lv_istore (lv' := [(4, .int 0), (0, .ref om), (1, .int f), (2, .int xa), (3, .int xb)]) hx hb dX4_square_45 hl (by decide) rfl (fun ls hl => ?_)
    refine lv_aload_n hx hb dX4_square_47 rfl (lv_at hl 1 rfl) ?_
    refine lv_iload hx hb dX4_square_48 (lv_at hl 0 rfl) ?_
    refine lv_if_ne (tgt := 57) hx hb dX4_square_50 (by decide) (fun h => absurd (by decide) h) (fun _ => ?_)
    refine lv_iconst (v := 1) hx hb dX4_square_53 (by decide) ?_
    refine lv_goto (tgt := 72) hx hb dX4_square_54 (by decide) ?_
    have hPc := hP.sub (ws' := [(om, .inr (4, [.int th, .int sa, .ref (am 0), .ref (am 1), .double mi, .ref (am 2), .ref (am 3), .ref (am 4), .int (nI nf), .ref (am 5), .ref (am 6), .ref (am 7), .ref (am 8), .ref (am 9), .ref (am 10), .ref (am 11), .ref (am 12), .ref (am 13), .ref (am 14), .ref (am 15), .ref (am 16), .ref (am 17), .ref (am 18), .ref (am 19)]))]) [2] rfl
    have hDc := hD.sub (ws' := [(om, .inr (4, [.int th, .int sa, .ref (am 0), .ref (am 1), .double mi, .ref (am 2), .ref (am 3), .ref (am 4), .int (nI nf), .ref (am 5), .ref (am 6), .ref (am 7), .ref (am 8), .ref (am 9), .ref (am 10), .ref (am 11), .ref (am 12), .ref (am 13), .ref (am 14), .ref (am 15), .ref (am 16), .ref (am 17), .ref (am 18), .ref (am 19)]))]) [2] (by decide) rfl
    have hFc := va_free (wc := [(om, .inr (4, [.int th, .int sa, .ref (am 0), .ref (am 1), .double mi, .ref (am 2), .ref (am 3), .ref (am 4), .int (nI nf), .ref (am 5), .ref (am 6), .ref (am 7), .ref (am 8), .ref (am 9), .ref (am 10), .ref (am 11), .ref (am 12), .ref (am 13), .ref (am 14), .ref (am 15), .ref (am 16), .ref (am 17), .ref (am 18), .ref (am 19)]))]) hD hS hA [2] rfl
    refine va_calli (va_runV (As := [.int 1]) (rest := []) ⟨hx, hb, hml, hown, hts⟩ (m_X4_goesWell l G q H.size om am th sa (nI nf) mi 1) (cwV 1 hts gX4_square_X4_goesWell rfl rfl rfl (by decide +kernel) ⟨Nat.le_of_ble_eq_true rfl, Nat.le_of_ble_eq_true rfl⟩) ⟨preW_blind, (va_recv hK hPc (ci := 4) (q0 := 0) rfl rfl), preW_start hPc hK hDc hNF⟩ rfl rfl hl.1 rfl (lv_room (Nat.le_of_ble_eq_true rfl)) dX4_square_72 ⟨(Nat.zero_le _), (Nat.zero_le _)⟩) hS (fun q _ h => hFc q h) hFc (fun gr15 u9 t9 H1 locs ht9 hv9 hw hB9 hz9 hk9 hS => ?_)
    obtain ⟨⟩ := u9
    obtain ⟨hP1, hD1⟩ := hB9
    rw [ht9] at hP1
    obtain ⟨hP, hD⟩ := va_join (wr := [((am 5), aI q 6 Ki), ((am 6), aI q 6 Ti)]) (w1 := [(om, .inr (4, [.int 1, .int sa, .ref (am 0), .ref (am 1), .double mi, .ref (am 2), .ref (am 3), .ref (am 4), .int (nI nf), .ref (am 5), .ref (am 6), .ref (am 7), .ref (am 8), .ref (am 9), .ref (am 10), .ref (am 11), .ref (am 12), .ref (am 13), .ref (am 14), .ref (am 15), .ref (am 16), .ref (am 17), .ref (am 18), .ref (am 19)]))]) hP hD [2] [0, 1] rfl rfl (by decide) (by decide) hk9 hFc hP1 hD1
    generalize H1 = H at hP hS ⊢
    have hP : va_P G vwCl [((am 5), aI q 6 Ki), ((am 6), aI q 6 Ti), (om, .inr (4, [.int 1, .int sa, .ref (am 0), .ref (am 1), .double mi, .ref (am 2), .ref (am 3), .ref (am 4), .int (nI nf), .ref (am 5), .ref (am 6), .ref (am 7), .ref (am 8), .ref (am 9), .ref (am 10), .ref (am 11), .ref (am 12), .ref (am 13), .ref (am 14), .ref (am 15), .ref (am 16), .ref (am 17), .ref (am 18), .ref (am 19)]))] H := hP
    have hD : va_D A [((am 5), aI q 6 Ki), ((am 6), aI q 6 Ti), (om, .inr (4, [.int 1, .int sa, .ref (am 0), .ref (am 1), .double mi, .ref (am 2), .ref (am 3), .ref (am 4), .int (nI nf), .ref (am 5), .ref (am 6), .ref (am 7), .ref (am 8), .ref (am 9), .ref (am 10), .ref (am 11), .ref (am 12), .ref (am 13), .ref (am 14), .ref (am 15), .ref (am 16), .ref (am 17), .ref (am 18), .ref (am 19)]))] := hD
    obtain rfl : gr15 = 0 := hw.trans (by decide)
    refine lv_if_eq (tgt := 96) hx hb dX4_square_75 (by decide) (fun _ => ?_) (fun h => absurd (by decide) h)
    refine lv_dc0 hx hb dX4_square_96 ?_
    have hP := hP.sub (ws' := [(om, .inr (4, [.int 1, .int sa, .ref (am 0), .ref (am 1), .double mi, .ref (am 2), .ref (am 3), .ref (am 4), .int (nI nf), .ref (am 5), .ref (am 6), .ref (am 7), .ref (am 8), .ref (am 9), .ref (am 10), .ref (am 11), .ref (am 12), .ref (am 13), .ref (am 14), .ref (am 15), .ref (am 16), .ref (am 17), .ref (am 18), .ref (am 19)])), ((am 5), aI q 6 Ki), ((am 6), aI q 6 Ti)]) [2, 0, 1] rfl
    have hD := hD.sub (ws' := [(om, .inr (4, [.int 1, .int sa, .ref (am 0), .ref (am 1), .double mi, .ref (am 2), .ref (am 3), .ref (am 4), .int (nI nf), .ref (am 5), .ref (am 6), .ref (am 7), .ref (am 8), .ref (am 9), .ref (am 10), .ref (am 11), .ref (am 12), .ref (am 13), .ref (am 14), .ref (am 15), .ref (am 16), .ref (am 17), .ref (am 18), .ref (am 19)])), ((am 5), aI q 6 Ki), ((am 6), aI q 6 Ti)]) [2, 0, 1] (by decide) rfl
    have hP9 := hP
    have hD9 := hD
    exact W.dret (v := 0) hx hb hr (fun t ht hW => ⟨⟨0, 1, rfl, by dsimp only; unfold squareC; rw [if_pos ci3, if_neg ci12], by rw [ht]; exact hP9, hD9⟩, hS.F ht⟩) hS.2.2 dX4_square_97
  obtain rfl : ri10 = 1 := hw.trans (if_pos ci12)
  refine lv_if_eq (tgt := 44) hx hb dX4_square_21 (by decide) (fun h => absurd h (by decide)) (fun _ => ?_)
  refine lv_iload_n hx hb dX4_square_24 rfl (lv_at hl 3 rfl) ?_
  refine lv_iconst (v := 0) hx hb dX4_square_25 (by decide) ?_
  refine lv_aload_n hx hb dX4_square_26 rfl (lv_at hl 0 rfl) ?_
  refine va_get (D := G) (ci := 4) (v := .ref (am 6)) (C := RX4) (T := TX4) (N := 24) hx hb hts in_X4_square_X4 hown hK hP 2 rfl rfl 10 (by decide) (hts (.fieldLink RX4 29 "EchoBenchModel" "taps" "[I") (by decide +kernel)) (fun _ h9 => h9) rfl dX4_square_27 ?_
  refine lv_iload_n hx hb dX4_square_30 rfl (lv_at hl 1 rfl) ?_
  refine va_ialdJ hx hb hK hP 1 0 rfl rfl (j := (tn f)) hf.1 (by omega) (by decide) dX4_square_31 ?_
  refine lv_iconst (v := 1) hx hb dX4_square_32 (by decide) ?_
  refine lv_isub hx hb dX4_square_33 ?_
  have hPc := hP.sub (ws' := []) [] rfl
  have hDc := hD.sub (ws' := []) [] (by decide) rfl
  have hFc := va_free (wc := []) hD hS hA [] rfl
  refine va_calli (va_runS (As := [.int xb, .int 0, .int (Ti (tn f) - 1)]) (rest := []) ⟨hx, hb, hml, hown, hts⟩ (m_X4_in l G q H.size xb 0 (Ti (tn f) - 1)) (va_cwS 3 hts gX4_square_X4_in rfl rfl rfl (by decide +kernel) ⟨Nat.le_of_ble_eq_true rfl, Nat.le_of_ble_eq_true rfl⟩) ⟨preW_blind, preW_start hPc hK hDc hNF⟩ rfl rfl hl.1 rfl (lv_room (Nat.le_of_ble_eq_true rfl)) dX4_square_34 ⟨(Nat.zero_le _), (Nat.zero_le _)⟩) hS (fun q _ h => hFc q h) hFc (fun ri19 u9 t9 H1 locs ht9 hv9 hw hB9 hz9 hk9 hS => ?_)
  obtain ⟨⟩ := u9
  obtain ⟨hP1, hD1⟩ := hB9
  rw [ht9] at hP1
  obtain ⟨hP, hD⟩ := va_join (wr := [((am 5), aI q 6 Ki), ((am 6), aI q 6 Ti), (om, .inr (4, [.int th, .int sa, .ref (am 0), .ref (am 1), .double mi, .ref (am 2), .ref (am 3), .ref (am 4), .int (nI nf), .ref (am 5), .ref (am 6), .ref (am 7), .ref (am 8), .ref (am 9), .ref (am 10), .ref (am 11), .ref (am 12), .ref (am 13), .ref (am 14), .ref (am 15), .ref (am 16), .ref (am 17), .ref (am 18), .ref (am 19)]))]) (w1 := []) hP hD [] [0, 1, 2] rfl rfl (by decide) (by decide) hk9 hFc hP1 hD1
  generalize H1 = H at hP hS ⊢
  have hP : va_P G vwCl [((am 5), aI q 6 Ki), ((am 6), aI q 6 Ti), (om, .inr (4, [.int th, .int sa, .ref (am 0), .ref (am 1), .double mi, .ref (am 2), .ref (am 3), .ref (am 4), .int (nI nf), .ref (am 5), .ref (am 6), .ref (am 7), .ref (am 8), .ref (am 9), .ref (am 10), .ref (am 11), .ref (am 12), .ref (am 13), .ref (am 14), .ref (am 15), .ref (am 16), .ref (am 17), .ref (am 18), .ref (am 19)]))] H := hP
  have hD : va_D A [((am 5), aI q 6 Ki), ((am 6), aI q 6 Ti), (om, .inr (4, [.int th, .int sa, .ref (am 0), .ref (am 1), .double mi, .ref (am 2), .ref (am 3), .ref (am 4), .int (nI nf), .ref (am 5), .ref (am 6), .ref (am 7), .ref (am 8), .ref (am 9), .ref (am 10), .ref (am 11), .ref (am 12), .ref (am 13), .ref (am 14), .ref (am 15), .ref (am 16), .ref (am 17), .ref (am 18), .ref (am 19)]))] := hD
  by_cases ci21 : 0 ≤ xb ∧ xb ≤ (Ti (tn f) - 1)
  rotate_left
  · skip
    obtain rfl : ri19 = 0 := hw.trans (if_neg ci21)
    refine lv_if_eq (tgt := 44) hx hb dX4_square_37 (by decide) (fun _ => ?_) (fun h => absurd (by decide) h)
    refine lv_iconst (v := 0) hx hb dX4_square_44 (by decide) ?_
    refine lv_istore (lv' := [(4, .int 0), (0, .ref om), (1, .int f), (2, .int xa), (3, .int xb)]) hx hb dX4_square_45 hl (by decide) rfl (fun ls hl => ?_)
    refine lv_aload_n hx hb dX4_square_47 rfl (lv_at hl 1 rfl) ?_
    refine lv_iload hx hb dX4_square_48 (lv_at hl 0 rfl) ?_
    refine lv_if_ne (tgt := 57) hx hb dX4_square_50 (by decide) (fun h => absurd (by decide) h) (fun _ => ?_)
    refine lv_iconst (v := 1) hx hb dX4_square_53 (by decide) ?_
    refine lv_goto (tgt := 72) hx hb dX4_square_54 (by decide) ?_
    have hPc := hP.sub (ws' := [(om, .inr (4, [.int th, .int sa, .ref (am 0), .ref (am 1), .double mi, .ref (am 2), .ref (am 3), .ref (am 4), .int (nI nf), .ref (am 5), .ref (am 6), .ref (am 7), .ref (am 8), .ref (am 9), .ref (am 10), .ref (am 11), .ref (am 12), .ref (am 13), .ref (am 14), .ref (am 15), .ref (am 16), .ref (am 17), .ref (am 18), .ref (am 19)]))]) [2] rfl
    have hDc := hD.sub (ws' := [(om, .inr (4, [.int th, .int sa, .ref (am 0), .ref (am 1), .double mi, .ref (am 2), .ref (am 3), .ref (am 4), .int (nI nf), .ref (am 5), .ref (am 6), .ref (am 7), .ref (am 8), .ref (am 9), .ref (am 10), .ref (am 11), .ref (am 12), .ref (am 13), .ref (am 14), .ref (am 15), .ref (am 16), .ref (am 17), .ref (am 18), .ref (am 19)]))]) [2] (by decide) rfl
    have hFc := va_free (wc := [(om, .inr (4, [.int th, .int sa, .ref (am 0), .ref (am 1), .double mi, .ref (am 2), .ref (am 3), .ref (am 4), .int (nI nf), .ref (am 5), .ref (am 6), .ref (am 7), .ref (am 8), .ref (am 9), .ref (am 10), .ref (am 11), .ref (am 12), .ref (am 13), .ref (am 14), .ref (am 15), .ref (am 16), .ref (am 17), .ref (am 18), .ref (am 19)]))]) hD hS hA [2] rfl
    refine va_calli (va_runV (As := [.int 1]) (rest := []) ⟨hx, hb, hml, hown, hts⟩ (m_X4_goesWell l G q H.size om am th sa (nI nf) mi 1) (cwV 1 hts gX4_square_X4_goesWell rfl rfl rfl (by decide +kernel) ⟨Nat.le_of_ble_eq_true rfl, Nat.le_of_ble_eq_true rfl⟩) ⟨preW_blind, (va_recv hK hPc (ci := 4) (q0 := 0) rfl rfl), preW_start hPc hK hDc hNF⟩ rfl rfl hl.1 rfl (lv_room (Nat.le_of_ble_eq_true rfl)) dX4_square_72 ⟨(Nat.zero_le _), (Nat.zero_le _)⟩) hS (fun q _ h => hFc q h) hFc (fun gr24 u9 t9 H1 locs ht9 hv9 hw hB9 hz9 hk9 hS => ?_)
    obtain ⟨⟩ := u9
    obtain ⟨hP1, hD1⟩ := hB9
    rw [ht9] at hP1
    obtain ⟨hP, hD⟩ := va_join (wr := [((am 5), aI q 6 Ki), ((am 6), aI q 6 Ti)]) (w1 := [(om, .inr (4, [.int 1, .int sa, .ref (am 0), .ref (am 1), .double mi, .ref (am 2), .ref (am 3), .ref (am 4), .int (nI nf), .ref (am 5), .ref (am 6), .ref (am 7), .ref (am 8), .ref (am 9), .ref (am 10), .ref (am 11), .ref (am 12), .ref (am 13), .ref (am 14), .ref (am 15), .ref (am 16), .ref (am 17), .ref (am 18), .ref (am 19)]))]) hP hD [2] [0, 1] rfl rfl (by decide) (by decide) hk9 hFc hP1 hD1
    generalize H1 = H at hP hS ⊢
    have hP : va_P G vwCl [((am 5), aI q 6 Ki), ((am 6), aI q 6 Ti), (om, .inr (4, [.int 1, .int sa, .ref (am 0), .ref (am 1), .double mi, .ref (am 2), .ref (am 3), .ref (am 4), .int (nI nf), .ref (am 5), .ref (am 6), .ref (am 7), .ref (am 8), .ref (am 9), .ref (am 10), .ref (am 11), .ref (am 12), .ref (am 13), .ref (am 14), .ref (am 15), .ref (am 16), .ref (am 17), .ref (am 18), .ref (am 19)]))] H := hP
    have hD : va_D A [((am 5), aI q 6 Ki), ((am 6), aI q 6 Ti), (om, .inr (4, [.int 1, .int sa, .ref (am 0), .ref (am 1), .double mi, .ref (am 2), .ref (am 3), .ref (am 4), .int (nI nf), .ref (am 5), .ref (am 6), .ref (am 7), .ref (am 8), .ref (am 9), .ref (am 10), .ref (am 11), .ref (am 12), .ref (am 13), .ref (am 14), .ref (am 15), .ref (am 16), .ref (am 17), .ref (am 18), .ref (am 19)]))] := hD
    obtain rfl : gr24 = 0 := hw.trans (by decide)
    refine lv_if_eq (tgt := 96) hx hb dX4_square_75 (by decide) (fun _ => ?_) (fun h => absurd (by decide) h)
    refine lv_dc0 hx hb dX4_square_96 ?_
    have hP := hP.sub (ws' := [(om, .inr (4, [.int 1, .int sa, .ref (am 0), .ref (am 1), .double mi, .ref (am 2), .ref (am 3), .ref (am 4), .int (nI nf), .ref (am 5), .ref (am 6), .ref (am 7), .ref (am 8), .ref (am 9), .ref (am 10), .ref (am 11), .ref (am 12), .ref (am 13), .ref (am 14), .ref (am 15), .ref (am 16), .ref (am 17), .ref (am 18), .ref (am 19)])), ((am 5), aI q 6 Ki), ((am 6), aI q 6 Ti)]) [2, 0, 1] rfl
    have hD := hD.sub (ws' := [(om, .inr (4, [.int 1, .int sa, .ref (am 0), .ref (am 1), .double mi, .ref (am 2), .ref (am 3), .ref (am 4), .int (nI nf), .ref (am 5), .ref (am 6), .ref (am 7), .ref (am 8), .ref (am 9), .ref (am 10), .ref (am 11), .ref (am 12), .ref (am 13), .ref (am 14), .ref (am 15), .ref (am 16), .ref (am 17), .ref (am 18), .ref (am 19)])), ((am 5), aI q 6 Ki), ((am 6), aI q 6 Ti)]) [2, 0, 1] (by decide) rfl
    have hP9 := hP
    have hD9 := hD
    exact W.dret (v := 0) hx hb hr (fun t ht hW => ⟨⟨0, 1, rfl, by dsimp only; unfold squareC; rw [if_pos ci3, if_pos ci12, if_neg ci21], by rw [ht]; exact hP9, hD9⟩, hS.F ht⟩) hS.2.2 dX4_square_97
  obtain rfl : ri19 = 1 := hw.trans (if_pos ci21)
  refine lv_if_eq (tgt := 44) hx hb dX4_square_37 (by decide) (fun h => absurd h (by decide)) (fun _ => ?_)
  refine lv_iconst (v := 1) hx hb dX4_square_40 (by decide) ?_
  refine lv_goto (tgt := 45) hx hb dX4_square_41 (by decide) ?_
  refine lv_istore (lv' := [(4, .int 1), (0, .ref om), (1, .int f), (2, .int xa), (3, .int xb)]) hx hb dX4_square_45 hl (by decide) rfl (fun ls hl => ?_)
  refine lv_aload_n hx hb dX4_square_47 rfl (lv_at hl 1 rfl) ?_
  refine lv_iload hx hb dX4_square_48 (lv_at hl 0 rfl) ?_
  refine lv_if_ne (tgt := 57) hx hb dX4_square_50 (by decide) (fun _ => ?_) (fun h => absurd h (by decide))
  refine lv_aload_n hx hb dX4_square_57 rfl (lv_at hl 1 rfl) ?_
  refine va_get (D := G) (ci := 4) (v := .ref (am 5)) (C := RX4) (T := TX4) (N := 24) hx hb hts in_X4_square_X4 hown hK hP 2 rfl rfl 9 (by decide) (hts (.fieldLink RX4 26 "EchoBenchModel" "kind" "[I") (by decide +kernel)) (fun _ h9 => h9) rfl dX4_square_58 ?_
  refine lv_iload_n hx hb dX4_square_61 rfl (lv_at hl 2 rfl) ?_
  refine va_ialdJ hx hb hK hP 0 0 rfl rfl (j := (tn f)) hf.1 (by omega) (by decide) dX4_square_62 ?_
  refine lv_iconst (v := 3) hx hb dX4_square_63 (by decide) ?_
  refine lv_icmp_eq (tgt := 71) hx hb dX4_square_64 (by decide) (fun c9 => ?_) (fun c9 => ?_)
  · skip
    exact absurd (by unfold squareC; rw [if_pos ci3, if_pos ci12, if_pos ci21, if_pos c9]) hc
  · skip
    refine lv_iconst (v := 2) hx hb dX4_square_67 (by decide) ?_
    refine lv_goto (tgt := 72) hx hb dX4_square_68 (by decide) ?_
    have hPc := hP.sub (ws' := [(om, .inr (4, [.int th, .int sa, .ref (am 0), .ref (am 1), .double mi, .ref (am 2), .ref (am 3), .ref (am 4), .int (nI nf), .ref (am 5), .ref (am 6), .ref (am 7), .ref (am 8), .ref (am 9), .ref (am 10), .ref (am 11), .ref (am 12), .ref (am 13), .ref (am 14), .ref (am 15), .ref (am 16), .ref (am 17), .ref (am 18), .ref (am 19)]))]) [2] rfl
    have hDc := hD.sub (ws' := [(om, .inr (4, [.int th, .int sa, .ref (am 0), .ref (am 1), .double mi, .ref (am 2), .ref (am 3), .ref (am 4), .int (nI nf), .ref (am 5), .ref (am 6), .ref (am 7), .ref (am 8), .ref (am 9), .ref (am 10), .ref (am 11), .ref (am 12), .ref (am 13), .ref (am 14), .ref (am 15), .ref (am 16), .ref (am 17), .ref (am 18), .ref (am 19)]))]) [2] (by decide) rfl
    have hFc := va_free (wc := [(om, .inr (4, [.int th, .int sa, .ref (am 0), .ref (am 1), .double mi, .ref (am 2), .ref (am 3), .ref (am 4), .int (nI nf), .ref (am 5), .ref (am 6), .ref (am 7), .ref (am 8), .ref (am 9), .ref (am 10), .ref (am 11), .ref (am 12), .ref (am 13), .ref (am 14), .ref (am 15), .ref (am 16), .ref (am 17), .ref (am 18), .ref (am 19)]))]) hD hS hA [2] rfl
    refine va_calli (va_runV (As := [.int 2]) (rest := []) ⟨hx, hb, hml, hown, hts⟩ (m_X4_goesWell l G q H.size om am th sa (nI nf) mi 2) (cwV 1 hts gX4_square_X4_goesWell rfl rfl rfl (by decide +kernel) ⟨Nat.le_of_ble_eq_true rfl, Nat.le_of_ble_eq_true rfl⟩) ⟨preW_blind, (va_recv hK hPc (ci := 4) (q0 := 0) rfl rfl), preW_start hPc hK hDc hNF⟩ rfl rfl hl.1 rfl (lv_room (Nat.le_of_ble_eq_true rfl)) dX4_square_72 ⟨(Nat.zero_le _), (Nat.zero_le _)⟩) hS (fun q _ h => hFc q h) hFc (fun gr29 u9 t9 H1 locs ht9 hv9 hw hB9 hz9 hk9 hS => ?_)
    obtain ⟨⟩ := u9
    obtain ⟨hP1, hD1⟩ := hB9
    rw [ht9] at hP1
    obtain ⟨hP, hD⟩ := va_join (wr := [((am 5), aI q 6 Ki), ((am 6), aI q 6 Ti)]) (w1 := [(om, .inr (4, [.int 2, .int sa, .ref (am 0), .ref (am 1), .double mi, .ref (am 2), .ref (am 3), .ref (am 4), .int (nI nf), .ref (am 5), .ref (am 6), .ref (am 7), .ref (am 8), .ref (am 9), .ref (am 10), .ref (am 11), .ref (am 12), .ref (am 13), .ref (am 14), .ref (am 15), .ref (am 16), .ref (am 17), .ref (am 18), .ref (am 19)]))]) hP hD [2] [0, 1] rfl rfl (by decide) (by decide) hk9 hFc hP1 hD1
    generalize H1 = H at hP hS ⊢
    have hP : va_P G vwCl [((am 5), aI q 6 Ki), ((am 6), aI q 6 Ti), (om, .inr (4, [.int 2, .int sa, .ref (am 0), .ref (am 1), .double mi, .ref (am 2), .ref (am 3), .ref (am 4), .int (nI nf), .ref (am 5), .ref (am 6), .ref (am 7), .ref (am 8), .ref (am 9), .ref (am 10), .ref (am 11), .ref (am 12), .ref (am 13), .ref (am 14), .ref (am 15), .ref (am 16), .ref (am 17), .ref (am 18), .ref (am 19)]))] H := hP
    have hD : va_D A [((am 5), aI q 6 Ki), ((am 6), aI q 6 Ti), (om, .inr (4, [.int 2, .int sa, .ref (am 0), .ref (am 1), .double mi, .ref (am 2), .ref (am 3), .ref (am 4), .int (nI nf), .ref (am 5), .ref (am 6), .ref (am 7), .ref (am 8), .ref (am 9), .ref (am 10), .ref (am 11), .ref (am 12), .ref (am 13), .ref (am 14), .ref (am 15), .ref (am 16), .ref (am 17), .ref (am 18), .ref (am 19)]))] := hD
    obtain rfl : gr29 = 0 := hw.trans (by decide)
    refine lv_if_eq (tgt := 96) hx hb dX4_square_75 (by decide) (fun _ => ?_) (fun h => absurd (by decide) h)
    refine lv_dc0 hx hb dX4_square_96 ?_
    have hP := hP.sub (ws' := [(om, .inr (4, [.int 2, .int sa, .ref (am 0), .ref (am 1), .double mi, .ref (am 2), .ref (am 3), .ref (am 4), .int (nI nf), .ref (am 5), .ref (am 6), .ref (am 7), .ref (am 8), .ref (am 9), .ref (am 10), .ref (am 11), .ref (am 12), .ref (am 13), .ref (am 14), .ref (am 15), .ref (am 16), .ref (am 17), .ref (am 18), .ref (am 19)])), ((am 5), aI q 6 Ki), ((am 6), aI q 6 Ti)]) [2, 0, 1] rfl
    have hD := hD.sub (ws' := [(om, .inr (4, [.int 2, .int sa, .ref (am 0), .ref (am 1), .double mi, .ref (am 2), .ref (am 3), .ref (am 4), .int (nI nf), .ref (am 5), .ref (am 6), .ref (am 7), .ref (am 8), .ref (am 9), .ref (am 10), .ref (am 11), .ref (am 12), .ref (am 13), .ref (am 14), .ref (am 15), .ref (am 16), .ref (am 17), .ref (am 18), .ref (am 19)])), ((am 5), aI q 6 Ki), ((am 6), aI q 6 Ti)]) [2, 0, 1] (by decide) rfl
    have hP9 := hP
    have hD9 := hD
    exact W.dret (v := 0) hx hb hr (fun t ht hW => ⟨⟨0, 2, rfl, by dsimp only; unfold squareC; rw [if_pos ci3, if_pos ci12, if_pos ci21, if_neg c9], by rw [ht]; exact hP9, hD9⟩, hS.F ht⟩) hS.2.2 dX4_square_97

set_option maxHeartbeats 4000000 in
set_option maxRecDepth 100000 in
/-- square: where it goes well -/
theorem m_X4_square (l : Launch) (G : va_G) (q : Nat → ClassId) (sz : Nat) (om : Nat) (am : Nat → Nat) (th sa : Int32) (mi : UInt64) (nf : Nat) (fx n ja jc : Nat) (Ki Ti : Nat → Int32) (Sq : Nat → UInt64) (hnf : nf ≤ 6) (hfx : fx < nf) (hn : n ≤ 4) (hT : Ti fx = nI n) (hk : Ki fx = 3) (hja : ja < n) (hjc : jc < n) : Met l yX4_square wsX4_square ({ frames := 2, cells := 0, slots := 0, locals := 43 } : Jvm.Room) (PreW G q [.ref om, .int (nI fx), .int (nI ja), .int (nI jc)] [(om, .inr (4, [.int th, .int sa, .ref (am 0), .ref (am 1), .double mi, .ref (am 2), .ref (am 3), .ref (am 4), .int (nI nf), .ref (am 5), .ref (am 6), .ref (am 7), .ref (am 8), .ref (am 9), .ref (am 10), .ref (am 11), .ref (am 12), .ref (am 13), .ref (am 14), .ref (am 15), .ref (am 16), .ref (am 17), .ref (am 18), .ref (am 19)])), ((am 5), aI q 6 Ki), ((am 6), aI q 6 Ti), ((am 18), aD q 96 Sq)] sz) (va_Qd (fun (r : UInt64) (_ : Unit) => r = Sq (16 * fx + 4 * ja + jc)) (fun (_ : Unit) t => EndA G (va_A [(om, .inr (4, [.int th, .int sa, .ref (am 0), .ref (am 1), .double mi, .ref (am 2), .ref (am 3), .ref (am 4), .int (nI nf), .ref (am 5), .ref (am 6), .ref (am 7), .ref (am 8), .ref (am 9), .ref (am 10), .ref (am 11), .ref (am 12), .ref (am 13), .ref (am 14), .ref (am 15), .ref (am 16), .ref (am 17), .ref (am 18), .ref (am 19)])), ((am 5), aI q 6 Ki), ((am 6), aI q 6 Ti), ((am 18), aD q 96 Sq)] sz) [(om, .inr (4, [.int 0, .int sa, .ref (am 0), .ref (am 1), .double mi, .ref (am 2), .ref (am 3), .ref (am 4), .int (nI nf), .ref (am 5), .ref (am 6), .ref (am 7), .ref (am 8), .ref (am 9), .ref (am 10), .ref (am 11), .ref (am 12), .ref (am 13), .ref (am 14), .ref (am 15), .ref (am 16), .ref (am 17), .ref (am 18), .ref (am 19)])), ((am 5), aI q 6 Ki), ((am 6), aI q 6 Ti), ((am 18), aD q 96 Sq)] t) (va_A [(om, .inr (4, [.int th, .int sa, .ref (am 0), .ref (am 1), .double mi, .ref (am 2), .ref (am 3), .ref (am 4), .int (nI nf), .ref (am 5), .ref (am 6), .ref (am 7), .ref (am 8), .ref (am 9), .ref (am 10), .ref (am 11), .ref (am 12), .ref (am 13), .ref (am 14), .ref (am 15), .ref (am 16), .ref (am 17), .ref (am 18), .ref (am 19)])), ((am 5), aI q 6 Ki), ((am 6), aI q 6 Ti), ((am 18), aD q 96 Sq)] sz)) 0 0 (va_A [(om, .inr (4, [.int th, .int sa, .ref (am 0), .ref (am 1), .double mi, .ref (am 2), .ref (am 3), .ref (am 4), .int (nI nf), .ref (am 5), .ref (am 6), .ref (am 7), .ref (am 8), .ref (am 9), .ref (am 10), .ref (am 11), .ref (am 12), .ref (am 13), .ref (am 14), .ref (am 15), .ref (am 16), .ref (am 17), .ref (am 18), .ref (am 19)])), ((am 5), aI q 6 Ki), ((am 6), aI q 6 Ti), ((am 18), aD q 96 Sq)] sz) := by
  refine Met.ofW (cc := cX4_square) (maxL := 5) (ret := (some .double)) (by decide +kernel) rfl ?_
  intro p e s m args below meth c s₁ B hml hv
  obtain ⟨rfl, hsz, hP, hK, hD0, hNF⟩ := hv
  have hx := B.exec
  have hb := B.bytes
  have hr := B.returns
  have hts := atoms_spec (ws := wsX4_square) B.pre
  have hown : s.vm.findClass RX4 = some m.cls := findClass_of_methodNamed B.named
  have hlocks := B.notSynchronized
  subst hsz
  have hD := hD0.self (sz := s.heap.size)
  generalize hAe : va_A [(om, .inr (4, [.int th, .int sa, .ref (am 0), .ref (am 1), .double mi, .ref (am 2), .ref (am 3), .ref (am 4), .int (nI nf), .ref (am 5), .ref (am 6), .ref (am 7), .ref (am 8), .ref (am 9), .ref (am 10), .ref (am 11), .ref (am 12), .ref (am 13), .ref (am 14), .ref (am 15), .ref (am 16), .ref (am 17), .ref (am 18), .ref (am 19)])), ((am 5), aI q 6 Ki), ((am 6), aI q 6 Ti), ((am 18), aD q 96 Sq)] s.heap.size = A at hD ⊢
  have hA : ∀ q : Nat, s.heap.size ≤ q → A q := fun q h => by rw [← hAe]; exact Or.inr h
  have hS : va_S A s.heap s.heap [] := va_S.rf
  have hP : va_P G vwCl [(om, .inr (4, [.int th, .int sa, .ref (am 0), .ref (am 1), .double mi, .ref (am 2), .ref (am 3), .ref (am 4), .int (nI nf), .ref (am 5), .ref (am 6), .ref (am 7), .ref (am 8), .ref (am 9), .ref (am 10), .ref (am 11), .ref (am 12), .ref (am 13), .ref (am 14), .ref (am 15), .ref (am 16), .ref (am 17), .ref (am 18), .ref (am 19)])), ((am 5), aI q 6 Ki), ((am 6), aI q 6 Ti), ((am 18), aD q 96 Sq)] s.heap := hP
  have hl := lv_entry ([.ref om, .int (nI fx), .int (nI ja), .int (nI jc)]) (n := 5) (Nat.le_of_ble_eq_true rfl)
  rw [lg_entry_eq]
  generalize (lg_sl ([.ref om, .int (nI fx), .int (nI ja), .int (nI jc)]) ++ List.replicate (5 - (lg_sl ([.ref om, .int (nI fx), .int (nI ja), .int (nI jc)])).length) Slot.unset).toArray = ls at hl ⊢
  have hl : lv_has ls 5 [(0, .ref om), (1, .int (nI fx)), (2, .int (nI ja)), (3, .int (nI jc))] := hl
  refine lv_aload_n hx hb dX4_square_0 rfl (lv_at hl 0 rfl) ?_
  refine lv_iload_n hx hb dX4_square_1 rfl (lv_at hl 1 rfl) ?_
  have hPc := hP.sub (ws' := [(om, .inr (4, [.int th, .int sa, .ref (am 0), .ref (am 1), .double mi, .ref (am 2), .ref (am 3), .ref (am 4), .int (nI nf), .ref (am 5), .ref (am 6), .ref (am 7), .ref (am 8), .ref (am 9), .ref (am 10), .ref (am 11), .ref (am 12), .ref (am 13), .ref (am 14), .ref (am 15), .ref (am 16), .ref (am 17), .ref (am 18), .ref (am 19)]))]) [0] rfl
  have hDc := hD.sub (ws' := [(om, .inr (4, [.int th, .int sa, .ref (am 0), .ref (am 1), .double mi, .ref (am 2), .ref (am 3), .ref (am 4), .int (nI nf), .ref (am 5), .ref (am 6), .ref (am 7), .ref (am 8), .ref (am 9), .ref (am 10), .ref (am 11), .ref (am 12), .ref (am 13), .ref (am 14), .ref (am 15), .ref (am 16), .ref (am 17), .ref (am 18), .ref (am 19)]))]) [0] (by decide) rfl
  have hFc := va_free (wc := [(om, .inr (4, [.int th, .int sa, .ref (am 0), .ref (am 1), .double mi, .ref (am 2), .ref (am 3), .ref (am 4), .int (nI nf), .ref (am 5), .ref (am 6), .ref (am 7), .ref (am 8), .ref (am 9), .ref (am 10), .ref (am 11), .ref (am 12), .ref (am 13), .ref (am 14), .ref (am 15), .ref (am 16), .ref (am 17), .ref (am 18), .ref (am 19)]))]) hD hS hA [0] rfl
  refine va_calli (va_runV (As := [.int (nI fx)]) (rest := []) ⟨hx, hb, hml, hown, hts⟩ (m_X4_isFilter l G q s.heap.size om am th sa (nI nf) mi (nI fx)) (cwV 1 hts gX4_square_X4_isFilter rfl rfl rfl (by decide +kernel) ⟨Nat.le_of_ble_eq_true rfl, Nat.le_of_ble_eq_true rfl⟩) ⟨preW_blind, (va_recv hK hPc (ci := 4) (q0 := 0) rfl rfl), preW_start hPc hK hDc hNF⟩ rfl rfl hl.1 rfl (lv_room (Nat.le_of_ble_eq_true rfl)) dX4_square_2 ⟨(Nat.zero_le _), (Nat.zero_le _)⟩) hS (fun q _ h => hFc q h) hFc (fun rf1 u9 t9 H1 locs ht9 hv9 hw hB9 hz9 hk9 hS => ?_)
  obtain ⟨⟩ := u9
  obtain ⟨hP1, hD1⟩ := hB9
  rw [ht9] at hP1
  obtain ⟨hP, hD⟩ := va_join (wr := [((am 5), aI q 6 Ki), ((am 6), aI q 6 Ti), ((am 18), aD q 96 Sq)]) (w1 := [(om, .inr (4, [.int th, .int sa, .ref (am 0), .ref (am 1), .double mi, .ref (am 2), .ref (am 3), .ref (am 4), .int (nI nf), .ref (am 5), .ref (am 6), .ref (am 7), .ref (am 8), .ref (am 9), .ref (am 10), .ref (am 11), .ref (am 12), .ref (am 13), .ref (am 14), .ref (am 15), .ref (am 16), .ref (am 17), .ref (am 18), .ref (am 19)]))]) hP hD [0] [1, 2, 3] rfl rfl (by decide) (by decide) hk9 hFc hP1 hD1
  generalize H1 = H at hP hS ⊢
  have hP : va_P G vwCl [((am 5), aI q 6 Ki), ((am 6), aI q 6 Ti), ((am 18), aD q 96 Sq), (om, .inr (4, [.int th, .int sa, .ref (am 0), .ref (am 1), .double mi, .ref (am 2), .ref (am 3), .ref (am 4), .int (nI nf), .ref (am 5), .ref (am 6), .ref (am 7), .ref (am 8), .ref (am 9), .ref (am 10), .ref (am 11), .ref (am 12), .ref (am 13), .ref (am 14), .ref (am 15), .ref (am 16), .ref (am 17), .ref (am 18), .ref (am 19)]))] H := hP
  have hD : va_D A [((am 5), aI q 6 Ki), ((am 6), aI q 6 Ti), ((am 18), aD q 96 Sq), (om, .inr (4, [.int th, .int sa, .ref (am 0), .ref (am 1), .double mi, .ref (am 2), .ref (am 3), .ref (am 4), .int (nI nf), .ref (am 5), .ref (am 6), .ref (am 7), .ref (am 8), .ref (am 9), .ref (am 10), .ref (am 11), .ref (am 12), .ref (am 13), .ref (am 14), .ref (am 15), .ref (am 16), .ref (am 17), .ref (am 18), .ref (am 19)]))] := hD
  obtain rfl : rf1 = 1 := hw.trans (if_pos (m1_in (by omega) hfx))
  refine lv_if_eq (tgt := 44) hx hb dX4_square_5 (by decide) (fun h => absurd h (by decide)) (fun _ => ?_)
  refine lv_iload_n hx hb dX4_square_8 rfl (lv_at hl 2 rfl) ?_
  refine lv_iconst (v := 0) hx hb dX4_square_9 (by decide) ?_
  refine lv_aload_n hx hb dX4_square_10 rfl (lv_at hl 0 rfl) ?_
  refine va_get (D := G) (ci := 4) (v := .ref (am 6)) (C := RX4) (T := TX4) (N := 24) hx hb hts in_X4_square_X4 hown hK hP 3 rfl rfl 10 (by decide) (hts (.fieldLink RX4 29 "EchoBenchModel" "taps" "[I") (by decide +kernel)) (fun _ h9 => h9) rfl dX4_square_11 ?_
  refine lv_iload_n hx hb dX4_square_14 rfl (lv_at hl 1 rfl) ?_
  refine va_ialdJ hx hb hK hP 1 0 rfl rfl (j := fx) rfl (by omega) (by decide) dX4_square_15 ?_
  rw [hT]
  refine lv_iconst (v := 1) hx hb dX4_square_16 (by decide) ?_
  refine lv_isub hx hb dX4_square_17 ?_
  have hPc := hP.sub (ws' := []) [] rfl
  have hDc := hD.sub (ws' := []) [] (by decide) rfl
  have hFc := va_free (wc := []) hD hS hA [] rfl
  refine va_calli (va_runS (As := [.int (nI ja), .int 0, .int ((nI n) - 1)]) (rest := []) ⟨hx, hb, hml, hown, hts⟩ (m_X4_in l G q H.size (nI ja) 0 ((nI n) - 1)) (va_cwS 3 hts gX4_square_X4_in rfl rfl rfl (by decide +kernel) ⟨Nat.le_of_ble_eq_true rfl, Nat.le_of_ble_eq_true rfl⟩) ⟨preW_blind, preW_start hPc hK hDc hNF⟩ rfl rfl hl.1 rfl (lv_room (Nat.le_of_ble_eq_true rfl)) dX4_square_18 ⟨(Nat.zero_le _), (Nat.zero_le _)⟩) hS (fun q _ h => hFc q h) hFc (fun ri4 u9 t9 H1 locs ht9 hv9 hw hB9 hz9 hk9 hS => ?_)
  obtain ⟨⟩ := u9
  obtain ⟨hP1, hD1⟩ := hB9
  rw [ht9] at hP1
  obtain ⟨hP, hD⟩ := va_join (wr := [((am 5), aI q 6 Ki), ((am 6), aI q 6 Ti), ((am 18), aD q 96 Sq), (om, .inr (4, [.int th, .int sa, .ref (am 0), .ref (am 1), .double mi, .ref (am 2), .ref (am 3), .ref (am 4), .int (nI nf), .ref (am 5), .ref (am 6), .ref (am 7), .ref (am 8), .ref (am 9), .ref (am 10), .ref (am 11), .ref (am 12), .ref (am 13), .ref (am 14), .ref (am 15), .ref (am 16), .ref (am 17), .ref (am 18), .ref (am 19)]))]) (w1 := []) hP hD [] [0, 1, 2, 3] rfl rfl (by decide) (by decide) hk9 hFc hP1 hD1
  generalize H1 = H at hP hS ⊢
  have hP : va_P G vwCl [((am 5), aI q 6 Ki), ((am 6), aI q 6 Ti), ((am 18), aD q 96 Sq), (om, .inr (4, [.int th, .int sa, .ref (am 0), .ref (am 1), .double mi, .ref (am 2), .ref (am 3), .ref (am 4), .int (nI nf), .ref (am 5), .ref (am 6), .ref (am 7), .ref (am 8), .ref (am 9), .ref (am 10), .ref (am 11), .ref (am 12), .ref (am 13), .ref (am 14), .ref (am 15), .ref (am 16), .ref (am 17), .ref (am 18), .ref (am 19)]))] H := hP
  have hD : va_D A [((am 5), aI q 6 Ki), ((am 6), aI q 6 Ti), ((am 18), aD q 96 Sq), (om, .inr (4, [.int th, .int sa, .ref (am 0), .ref (am 1), .double mi, .ref (am 2), .ref (am 3), .ref (am 4), .int (nI nf), .ref (am 5), .ref (am 6), .ref (am 7), .ref (am 8), .ref (am 9), .ref (am 10), .ref (am 11), .ref (am 12), .ref (am 13), .ref (am 14), .ref (am 15), .ref (am 16), .ref (am 17), .ref (am 18), .ref (am 19)]))] := hD
  obtain rfl : ri4 = 1 := hw.trans (if_pos (m1_in (by omega) hja))
  refine lv_if_eq (tgt := 44) hx hb dX4_square_21 (by decide) (fun h => absurd h (by decide)) (fun _ => ?_)
  refine lv_iload_n hx hb dX4_square_24 rfl (lv_at hl 3 rfl) ?_
  refine lv_iconst (v := 0) hx hb dX4_square_25 (by decide) ?_
  refine lv_aload_n hx hb dX4_square_26 rfl (lv_at hl 0 rfl) ?_
  refine va_get (D := G) (ci := 4) (v := .ref (am 6)) (C := RX4) (T := TX4) (N := 24) hx hb hts in_X4_square_X4 hown hK hP 3 rfl rfl 10 (by decide) (hts (.fieldLink RX4 29 "EchoBenchModel" "taps" "[I") (by decide +kernel)) (fun _ h9 => h9) rfl dX4_square_27 ?_
  refine lv_iload_n hx hb dX4_square_30 rfl (lv_at hl 1 rfl) ?_
  refine va_ialdJ hx hb hK hP 1 0 rfl rfl (j := fx) rfl (by omega) (by decide) dX4_square_31 ?_
  rw [hT]
  refine lv_iconst (v := 1) hx hb dX4_square_32 (by decide) ?_
  refine lv_isub hx hb dX4_square_33 ?_
  have hPc := hP.sub (ws' := []) [] rfl
  have hDc := hD.sub (ws' := []) [] (by decide) rfl
  have hFc := va_free (wc := []) hD hS hA [] rfl
  refine va_calli (va_runS (As := [.int (nI jc), .int 0, .int ((nI n) - 1)]) (rest := []) ⟨hx, hb, hml, hown, hts⟩ (m_X4_in l G q H.size (nI jc) 0 ((nI n) - 1)) (va_cwS 3 hts gX4_square_X4_in rfl rfl rfl (by decide +kernel) ⟨Nat.le_of_ble_eq_true rfl, Nat.le_of_ble_eq_true rfl⟩) ⟨preW_blind, preW_start hPc hK hDc hNF⟩ rfl rfl hl.1 rfl (lv_room (Nat.le_of_ble_eq_true rfl)) dX4_square_34 ⟨(Nat.zero_le _), (Nat.zero_le _)⟩) hS (fun q _ h => hFc q h) hFc (fun ri7 u9 t9 H1 locs ht9 hv9 hw hB9 hz9 hk9 hS => ?_)
  obtain ⟨⟩ := u9
  obtain ⟨hP1, hD1⟩ := hB9
  rw [ht9] at hP1
  obtain ⟨hP, hD⟩ := va_join (wr := [((am 5), aI q 6 Ki), ((am 6), aI q 6 Ti), ((am 18), aD q 96 Sq), (om, .inr (4, [.int th, .int sa, .ref (am 0), .ref (am 1), .double mi, .ref (am 2), .ref (am 3), .ref (am 4), .int (nI nf), .ref (am 5), .ref (am 6), .ref (am 7), .ref (am 8), .ref (am 9), .ref (am 10), .ref (am 11), .ref (am 12), .ref (am 13), .ref (am 14), .ref (am 15), .ref (am 16), .ref (am 17), .ref (am 18), .ref (am 19)]))]) (w1 := []) hP hD [] [0, 1, 2, 3] rfl rfl (by decide) (by decide) hk9 hFc hP1 hD1
  generalize H1 = H at hP hS ⊢
  have hP : va_P G vwCl [((am 5), aI q 6 Ki), ((am 6), aI q 6 Ti), ((am 18), aD q 96 Sq), (om, .inr (4, [.int th, .int sa, .ref (am 0), .ref (am 1), .double mi, .ref (am 2), .ref (am 3), .ref (am 4), .int (nI nf), .ref (am 5), .ref (am 6), .ref (am 7), .ref (am 8), .ref (am 9), .ref (am 10), .ref (am 11), .ref (am 12), .ref (am 13), .ref (am 14), .ref (am 15), .ref (am 16), .ref (am 17), .ref (am 18), .ref (am 19)]))] H := hP
  have hD : va_D A [((am 5), aI q 6 Ki), ((am 6), aI q 6 Ti), ((am 18), aD q 96 Sq), (om, .inr (4, [.int th, .int sa, .ref (am 0), .ref (am 1), .double mi, .ref (am 2), .ref (am 3), .ref (am 4), .int (nI nf), .ref (am 5), .ref (am 6), .ref (am 7), .ref (am 8), .ref (am 9), .ref (am 10), .ref (am 11), .ref (am 12), .ref (am 13), .ref (am 14), .ref (am 15), .ref (am 16), .ref (am 17), .ref (am 18), .ref (am 19)]))] := hD
  obtain rfl : ri7 = 1 := hw.trans (if_pos (m1_in (by omega) hjc))
  refine lv_if_eq (tgt := 44) hx hb dX4_square_37 (by decide) (fun h => absurd h (by decide)) (fun _ => ?_)
  refine lv_iconst (v := 1) hx hb dX4_square_40 (by decide) ?_
  refine lv_goto (tgt := 45) hx hb dX4_square_41 (by decide) ?_
  refine lv_istore (lv' := [(4, .int 1), (0, .ref om), (1, .int (nI fx)), (2, .int (nI ja)), (3, .int (nI jc))]) hx hb dX4_square_45 hl (by decide) rfl (fun ls hl => ?_)
  refine lv_aload_n hx hb dX4_square_47 rfl (lv_at hl 1 rfl) ?_
  refine lv_iload hx hb dX4_square_48 (lv_at hl 0 rfl) ?_
  refine lv_if_ne (tgt := 57) hx hb dX4_square_50 (by decide) (fun _ => ?_) (fun h => absurd h (by decide))
  refine lv_aload_n hx hb dX4_square_57 rfl (lv_at hl 1 rfl) ?_
  refine va_get (D := G) (ci := 4) (v := .ref (am 5)) (C := RX4) (T := TX4) (N := 24) hx hb hts in_X4_square_X4 hown hK hP 3 rfl rfl 9 (by decide) (hts (.fieldLink RX4 26 "EchoBenchModel" "kind" "[I") (by decide +kernel)) (fun _ h9 => h9) rfl dX4_square_58 ?_
  refine lv_iload_n hx hb dX4_square_61 rfl (lv_at hl 2 rfl) ?_
  refine va_ialdJ hx hb hK hP 0 0 rfl rfl (j := fx) rfl (by omega) (by decide) dX4_square_62 ?_
  rw [hk]
  refine lv_iconst (v := 3) hx hb dX4_square_63 (by decide) ?_
  refine lv_icmp_eq (tgt := 71) hx hb dX4_square_64 (by decide) (fun _ => ?_) (fun h => absurd (by decide) h)
  refine lv_iconst (v := 0) hx hb dX4_square_71 (by decide) ?_
  have hPc := hP.sub (ws' := [(om, .inr (4, [.int th, .int sa, .ref (am 0), .ref (am 1), .double mi, .ref (am 2), .ref (am 3), .ref (am 4), .int (nI nf), .ref (am 5), .ref (am 6), .ref (am 7), .ref (am 8), .ref (am 9), .ref (am 10), .ref (am 11), .ref (am 12), .ref (am 13), .ref (am 14), .ref (am 15), .ref (am 16), .ref (am 17), .ref (am 18), .ref (am 19)]))]) [3] rfl
  have hDc := hD.sub (ws' := [(om, .inr (4, [.int th, .int sa, .ref (am 0), .ref (am 1), .double mi, .ref (am 2), .ref (am 3), .ref (am 4), .int (nI nf), .ref (am 5), .ref (am 6), .ref (am 7), .ref (am 8), .ref (am 9), .ref (am 10), .ref (am 11), .ref (am 12), .ref (am 13), .ref (am 14), .ref (am 15), .ref (am 16), .ref (am 17), .ref (am 18), .ref (am 19)]))]) [3] (by decide) rfl
  have hFc := va_free (wc := [(om, .inr (4, [.int th, .int sa, .ref (am 0), .ref (am 1), .double mi, .ref (am 2), .ref (am 3), .ref (am 4), .int (nI nf), .ref (am 5), .ref (am 6), .ref (am 7), .ref (am 8), .ref (am 9), .ref (am 10), .ref (am 11), .ref (am 12), .ref (am 13), .ref (am 14), .ref (am 15), .ref (am 16), .ref (am 17), .ref (am 18), .ref (am 19)]))]) hD hS hA [3] rfl
  refine va_calli (va_runV (As := [.int 0]) (rest := []) ⟨hx, hb, hml, hown, hts⟩ (m_X4_goesWell l G q H.size om am th sa (nI nf) mi 0) (cwV 1 hts gX4_square_X4_goesWell rfl rfl rfl (by decide +kernel) ⟨Nat.le_of_ble_eq_true rfl, Nat.le_of_ble_eq_true rfl⟩) ⟨preW_blind, (va_recv hK hPc (ci := 4) (q0 := 0) rfl rfl), preW_start hPc hK hDc hNF⟩ rfl rfl hl.1 rfl (lv_room (Nat.le_of_ble_eq_true rfl)) dX4_square_72 ⟨(Nat.zero_le _), (Nat.zero_le _)⟩) hS (fun q _ h => hFc q h) hFc (fun gr12 u9 t9 H1 locs ht9 hv9 hw hB9 hz9 hk9 hS => ?_)
  obtain ⟨⟩ := u9
  obtain ⟨hP1, hD1⟩ := hB9
  rw [ht9] at hP1
  obtain ⟨hP, hD⟩ := va_join (wr := [((am 5), aI q 6 Ki), ((am 6), aI q 6 Ti), ((am 18), aD q 96 Sq)]) (w1 := [(om, .inr (4, [.int 0, .int sa, .ref (am 0), .ref (am 1), .double mi, .ref (am 2), .ref (am 3), .ref (am 4), .int (nI nf), .ref (am 5), .ref (am 6), .ref (am 7), .ref (am 8), .ref (am 9), .ref (am 10), .ref (am 11), .ref (am 12), .ref (am 13), .ref (am 14), .ref (am 15), .ref (am 16), .ref (am 17), .ref (am 18), .ref (am 19)]))]) hP hD [3] [0, 1, 2] rfl rfl (by decide) (by decide) hk9 hFc hP1 hD1
  generalize H1 = H at hP hS ⊢
  have hP : va_P G vwCl [((am 5), aI q 6 Ki), ((am 6), aI q 6 Ti), ((am 18), aD q 96 Sq), (om, .inr (4, [.int 0, .int sa, .ref (am 0), .ref (am 1), .double mi, .ref (am 2), .ref (am 3), .ref (am 4), .int (nI nf), .ref (am 5), .ref (am 6), .ref (am 7), .ref (am 8), .ref (am 9), .ref (am 10), .ref (am 11), .ref (am 12), .ref (am 13), .ref (am 14), .ref (am 15), .ref (am 16), .ref (am 17), .ref (am 18), .ref (am 19)]))] H := hP
  have hD : va_D A [((am 5), aI q 6 Ki), ((am 6), aI q 6 Ti), ((am 18), aD q 96 Sq), (om, .inr (4, [.int 0, .int sa, .ref (am 0), .ref (am 1), .double mi, .ref (am 2), .ref (am 3), .ref (am 4), .int (nI nf), .ref (am 5), .ref (am 6), .ref (am 7), .ref (am 8), .ref (am 9), .ref (am 10), .ref (am 11), .ref (am 12), .ref (am 13), .ref (am 14), .ref (am 15), .ref (am 16), .ref (am 17), .ref (am 18), .ref (am 19)]))] := hD
  obtain rfl : gr12 = 1 := hw.trans (by decide)
  refine lv_if_eq (tgt := 96) hx hb dX4_square_75 (by decide) (fun h => absurd h (by decide)) (fun _ => ?_)
  refine lv_aload_n hx hb dX4_square_78 rfl (lv_at hl 1 rfl) ?_
  refine va_get (D := G) (ci := 4) (v := .ref (am 18)) (C := RX4) (T := TX4) (N := 24) hx hb hts in_X4_square_X4 hown hK hP 3 rfl rfl 22 (by decide) (hts (.fieldLink RX4 65 "EchoBenchModel" "square" "[D") (by decide +kernel)) (fun _ h9 => h9) rfl dX4_square_79 ?_
  refine lv_bipush (v := 16) hx hb dX4_square_82 (by decide) ?_
  refine lv_iload_n hx hb dX4_square_84 rfl (lv_at hl 2 rfl) ?_
  refine lv_imul hx hb dX4_square_85 ?_
  refine lv_topi (fun x15 ex15 => ?_)
  obtain rfl : x15 = (nI (16 * fx)) := ex15.trans (nI_mul 16 fx)
  refine lv_iconst (v := 4) hx hb dX4_square_86 (by decide) ?_
  refine lv_iload_n hx hb dX4_square_87 rfl (lv_at hl 3 rfl) ?_
  refine lv_imul hx hb dX4_square_88 ?_
  refine lv_topi (fun x16 ex16 => ?_)
  obtain rfl : x16 = (nI (4 * ja)) := ex16.trans (nI_mul 4 ja)
  refine lv_iadd hx hb dX4_square_89 ?_
  refine lv_topi (fun x17 ex17 => ?_)
  obtain rfl : x17 = (nI (16 * fx + (4 * ja))) := ex17.trans (nI_add (16 * fx) (4 * ja))
  refine lv_iload_n hx hb dX4_square_90 rfl (lv_at hl 4 rfl) ?_
  refine lv_iadd hx hb dX4_square_91 ?_
  refine lv_topi (fun x18 ex18 => ?_)
  obtain rfl : x18 = (nI (16 * fx + (4 * ja) + jc)) := ex18.trans (nI_add (16 * fx + (4 * ja)) jc)
  refine va_daldJ hx hb hK hP 2 1 rfl rfl (j := (16 * fx + 4 * ja + jc)) rfl (by omega) (by decide) dX4_square_92 ?_
  refine lv_goto (tgt := 97) hx hb dX4_square_93 (by decide) ?_
  have hP := hP.sub (ws' := [(om, .inr (4, [.int 0, .int sa, .ref (am 0), .ref (am 1), .double mi, .ref (am 2), .ref (am 3), .ref (am 4), .int (nI nf), .ref (am 5), .ref (am 6), .ref (am 7), .ref (am 8), .ref (am 9), .ref (am 10), .ref (am 11), .ref (am 12), .ref (am 13), .ref (am 14), .ref (am 15), .ref (am 16), .ref (am 17), .ref (am 18), .ref (am 19)])), ((am 5), aI q 6 Ki), ((am 6), aI q 6 Ti), ((am 18), aD q 96 Sq)]) [3, 0, 1, 2] rfl
  have hD := hD.sub (ws' := [(om, .inr (4, [.int 0, .int sa, .ref (am 0), .ref (am 1), .double mi, .ref (am 2), .ref (am 3), .ref (am 4), .int (nI nf), .ref (am 5), .ref (am 6), .ref (am 7), .ref (am 8), .ref (am 9), .ref (am 10), .ref (am 11), .ref (am 12), .ref (am 13), .ref (am 14), .ref (am 15), .ref (am 16), .ref (am 17), .ref (am 18), .ref (am 19)])), ((am 5), aI q 6 Ki), ((am 6), aI q 6 Ti), ((am 18), aD q 96 Sq)]) [3, 0, 1, 2] (by decide) rfl
  have hP9 := hP
  have hD9 := hD
  exact W.dret (v := Sq (16 * fx + 4 * ja + jc)) hx hb hr (fun t ht hW => ⟨⟨Sq (16 * fx + 4 * ja + jc), (), rfl, rfl, by rw [ht]; exact hP9, hD9⟩, hS.F ht⟩) hS.2.2 dX4_square_97

theorem in_X4_best_X4 : ∀ w ∈ wsX40, w ∈ wsX4_best := by decide +kernel
set_option maxHeartbeats 4000000 in
set_option maxRecDepth 100000 in
/-- best -/
theorem m_X4_best (l : Launch) (G : va_G) (q : Nat → ClassId) (sz : Nat) (om : Nat) (am : Nat → Nat) (th sa : Int32) (mi : UInt64) (nf : Nat) (pa Ti : Nat → Int32) (Wt : Nat → UInt64) (hnf : nf ≤ 6) (hv : ∀ g, g < nf → ∃ n, Ti g = nI n ∧ n ≤ 8) : MetD lw_cs l yX4_best wsX4_best ({ frames := 1, cells := 0, slots := 0, locals := 26 } : Jvm.Room) (PreW G q [.ref om] [(om, .inr (4, [.int th, .int sa, .ref (am 0), .ref (am 1), .double mi, .ref (am 2), .ref (am 3), .ref (am 4), .int (nI nf), .ref (am 5), .ref (am 6), .ref (am 7), .ref (am 8), .ref (am 9), .ref (am 10), .ref (am 11), .ref (am 12), .ref (am 13), .ref (am 14), .ref (am 15), .ref (am 16), .ref (am 17), .ref (am 18), .ref (am 19)])), ((am 0), aI q 8 pa), ((am 6), aI q 6 Ti), ((am 14), aD q 48 Wt)] sz) (va_Qi (fun (r : Int32) (_ : Unit) => r = bstI (bstN (fun g => sOff (tn (Ti g)) (fun k => dV (Wt (8 * g + k))) pa) nf)) (fun (_ : Unit) t => EndA G (va_A [(om, .inr (4, [.int th, .int sa, .ref (am 0), .ref (am 1), .double mi, .ref (am 2), .ref (am 3), .ref (am 4), .int (nI nf), .ref (am 5), .ref (am 6), .ref (am 7), .ref (am 8), .ref (am 9), .ref (am 10), .ref (am 11), .ref (am 12), .ref (am 13), .ref (am 14), .ref (am 15), .ref (am 16), .ref (am 17), .ref (am 18), .ref (am 19)])), ((am 0), aI q 8 pa), ((am 6), aI q 6 Ti), ((am 14), aD q 48 Wt)] sz) [(om, .inr (4, [.int 0, .int sa, .ref (am 0), .ref (am 1), .double mi, .ref (am 2), .ref (am 3), .ref (am 4), .int (nI nf), .ref (am 5), .ref (am 6), .ref (am 7), .ref (am 8), .ref (am 9), .ref (am 10), .ref (am 11), .ref (am 12), .ref (am 13), .ref (am 14), .ref (am 15), .ref (am 16), .ref (am 17), .ref (am 18), .ref (am 19)])), ((am 0), aI q 8 pa), ((am 6), aI q 6 Ti), ((am 14), aD q 48 Wt)] t) (va_A [(om, .inr (4, [.int th, .int sa, .ref (am 0), .ref (am 1), .double mi, .ref (am 2), .ref (am 3), .ref (am 4), .int (nI nf), .ref (am 5), .ref (am 6), .ref (am 7), .ref (am 8), .ref (am 9), .ref (am 10), .ref (am 11), .ref (am 12), .ref (am 13), .ref (am 14), .ref (am 15), .ref (am 16), .ref (am 17), .ref (am 18), .ref (am 19)])), ((am 0), aI q 8 pa), ((am 6), aI q 6 Ti), ((am 14), aD q 48 Wt)] sz)) 0 0 (va_A [(om, .inr (4, [.int th, .int sa, .ref (am 0), .ref (am 1), .double mi, .ref (am 2), .ref (am 3), .ref (am 4), .int (nI nf), .ref (am 5), .ref (am 6), .ref (am 7), .ref (am 8), .ref (am 9), .ref (am 10), .ref (am 11), .ref (am 12), .ref (am 13), .ref (am 14), .ref (am 15), .ref (am 16), .ref (am 17), .ref (am 18), .ref (am 19)])), ((am 0), aI q 8 pa), ((am 6), aI q 6 Ti), ((am 14), aD q 48 Wt)] sz) := by
  refine MetD.ofW (cc := cX4_best) (maxL := 3) (ret := (some .int)) (by decide +kernel) rfl ?_
  intro p e s m args below meth c s₁ B hml hv hd0
  obtain ⟨rfl, hsz, hP, hK, hD0, hNF⟩ := hv
  have hx := B.exec
  have hb := B.bytes
  have hr := B.returns
  have hts := atoms_spec (ws := wsX4_best) B.pre
  have hown : s.vm.findClass RX4 = some m.cls := findClass_of_methodNamed B.named
  have hlocks := B.notSynchronized
  subst hsz
  have hD := hD0.self (sz := s.heap.size)
  generalize hAe : va_A [(om, .inr (4, [.int th, .int sa, .ref (am 0), .ref (am 1), .double mi, .ref (am 2), .ref (am 3), .ref (am 4), .int (nI nf), .ref (am 5), .ref (am 6), .ref (am 7), .ref (am 8), .ref (am 9), .ref (am 10), .ref (am 11), .ref (am 12), .ref (am 13), .ref (am 14), .ref (am 15), .ref (am 16), .ref (am 17), .ref (am 18), .ref (am 19)])), ((am 0), aI q 8 pa), ((am 6), aI q 6 Ti), ((am 14), aD q 48 Wt)] s.heap.size = A at hD ⊢
  have hA : ∀ q : Nat, s.heap.size ≤ q → A q := fun q h => by rw [← hAe]; exact Or.inr h
  have hS : va_S A s.heap s.heap [] := va_S.rf
  have hP : va_P G vwCl [(om, .inr (4, [.int th, .int sa, .ref (am 0), .ref (am 1), .double mi, .ref (am 2), .ref (am 3), .ref (am 4), .int (nI nf), .ref (am 5), .ref (am 6), .ref (am 7), .ref (am 8), .ref (am 9), .ref (am 10), .ref (am 11), .ref (am 12), .ref (am 13), .ref (am 14), .ref (am 15), .ref (am 16), .ref (am 17), .ref (am 18), .ref (am 19)])), ((am 0), aI q 8 pa), ((am 6), aI q 6 Ti), ((am 14), aD q 48 Wt)] s.heap := hP
  have hl := lv_entry ([.ref om]) (n := 3) (Nat.le_of_ble_eq_true rfl)
  rw [lg_entry_eq]
  generalize (lg_sl ([.ref om]) ++ List.replicate (3 - (lg_sl ([.ref om])).length) Slot.unset).toArray = ls at hl ⊢
  have hl : lv_has ls 3 [(0, .ref om)] := hl
  refine lv_aload_n hx hb dX4_best_0 rfl (lv_at hl 0 rfl) ?_
  refine lv_iconst (v := 0) hx hb dX4_best_1 (by decide) ?_
  refine va_put (D := G) (ci := 4) (v := .int 0) (ty := .int) (C := RX4) (T := TX4) (N := 24) hx hb (dr_words hts s.drawn) in_X4_best_X4 tyX4 tyX4_ok nmX4 hown hK hP hD hS 0 rfl rfl 0 (by decide) (dr_words hts s.drawn (.fieldLink RX4 71 "EchoBenchModel" "thrown" "I") (by decide +kernel)) (fun _ h9 => h9) rfl (by decide +kernel) rfl rfl (Nat.le_of_ble_eq_true rfl) dX4_best_2 (fun H locs hP hD hS => ?_)
  have hP : va_P G vwCl [(om, .inr (4, [.int 0, .int sa, .ref (am 0), .ref (am 1), .double mi, .ref (am 2), .ref (am 3), .ref (am 4), .int (nI nf), .ref (am 5), .ref (am 6), .ref (am 7), .ref (am 8), .ref (am 9), .ref (am 10), .ref (am 11), .ref (am 12), .ref (am 13), .ref (am 14), .ref (am 15), .ref (am 16), .ref (am 17), .ref (am 18), .ref (am 19)])), ((am 0), aI q 8 pa), ((am 6), aI q 6 Ti), ((am 14), aD q 48 Wt)] H := hP
  have hD : va_D A [(om, .inr (4, [.int 0, .int sa, .ref (am 0), .ref (am 1), .double mi, .ref (am 2), .ref (am 3), .ref (am 4), .int (nI nf), .ref (am 5), .ref (am 6), .ref (am 7), .ref (am 8), .ref (am 9), .ref (am 10), .ref (am 11), .ref (am 12), .ref (am 13), .ref (am 14), .ref (am 15), .ref (am 16), .ref (am 17), .ref (am 18), .ref (am 19)])), ((am 0), aI q 8 pa), ((am 6), aI q 6 Ti), ((am 14), aD q 48 Wt)] := hD
  refine lv_iconst (v := (-1)) hx hb dX4_best_5 (by decide) ?_
  refine lv_istore_n (lv' := [(1, .int (-1)), (0, .ref om)]) hx hb dX4_best_6 rfl hl (by decide) rfl (fun ls hl => ?_)
  refine lv_iconst (v := 0) hx hb dX4_best_7 (by decide) ?_
  refine lv_istore_n (lv' := [(2, .int 0), (1, .int (-1)), (0, .ref om)]) hx hb dX4_best_8 rfl hl (by decide) rfl (fun ls hl => ?_)
  have LOOP : ∀ (k : Nat) (j : Nat) (fd : Int32), j + k = nf → fd = bstI (bstN (fun g => sOff (tn (Ti g)) (fun k => dV (Wt (8 * g + k))) pa) j) → ∀ (H : Heap) (locs : List Loc) (d0 : Drawn), s.drawn.sameBut d0 lw_cs → va_P G vwCl [(om, .inr (4, [.int 0, .int sa, .ref (am 0), .ref (am 1), .double mi, .ref (am 2), .ref (am 3), .ref (am 4), .int (nI nf), .ref (am 5), .ref (am 6), .ref (am 7), .ref (am 8), .ref (am 9), .ref (am 10), .ref (am 11), .ref (am 12), .ref (am 13), .ref (am 14), .ref (am 15), .ref (am 16), .ref (am 17), .ref (am 18), .ref (am 19)])), ((am 0), aI q 8 pa), ((am 6), aI q 6 Ti), ((am 14), aD q 48 Wt)] H → va_D A [(om, .inr (4, [.int 0, .int sa, .ref (am 0), .ref (am 1), .double mi, .ref (am 2), .ref (am 3), .ref (am 4), .int (nI nf), .ref (am 5), .ref (am 6), .ref (am 7), .ref (am 8), .ref (am 9), .ref (am 10), .ref (am 11), .ref (am 12), .ref (am 13), .ref (am 14), .ref (am 15), .ref (am 16), .ref (am 17), .ref (am 18), .ref (am 19)])), ((am 0), aI q 8 pa), ((am 6), aI q 6 Ti), ((am 14), aD q 48 Wt)] → va_S A s.heap H locs → ∀ (ls : Array Slot), lv_has ls 3 [(0, .ref om), (1, .int fd), (2, .int (nI j))] → W p l e (headSpec wsX4_best ({ frames := 1, cells := 0, slots := 0, locals := 26 } : Jvm.Room)).room (s.setDrawn d0) m #[.ref om] below meth c H locs 0 0 (MQD lw_cs below (va_Qi (fun (r : Int32) (_ : Unit) => r = bstI (bstN (fun g => sOff (tn (Ti g)) (fun k => dV (Wt (8 * g + k))) pa) nf)) (fun (_ : Unit) t => EndA G A [(om, .inr (4, [.int 0, .int sa, .ref (am 0), .ref (am 1), .double mi, .ref (am 2), .ref (am 3), .ref (am 4), .int (nI nf), .ref (am 5), .ref (am 6), .ref (am 7), .ref (am 8), .ref (am 9), .ref (am 10), .ref (am 11), .ref (am 12), .ref (am 13), .ref (am 14), .ref (am 15), .ref (am 16), .ref (am 17), .ref (am 18), .ref (am 19)])), ((am 0), aI q 8 pa), ((am 6), aI q 6 Ti), ((am 14), aD q 48 Wt)] t) A) #[.ref om] s 0 0 A) (F0 m 9 ls []) := by
    intro k
    induction k with
    | zero =>
      intro j fd hj hb9 H locs d0 hd0 hP hD hS ls hl
      refine lv_iload_n hx hb dX4_best_9 rfl (lv_at hl 2 rfl) ?_
      refine lv_aload_n hx hb dX4_best_10 rfl (lv_at hl 0 rfl) ?_
      refine va_get (D := G) (ci := 4) (v := .int (nI nf)) (C := RX4) (T := TX4) (N := 24) hx hb (dr_words hts d0) in_X4_best_X4 hown hK hP 0 rfl rfl 8 (by decide) (dr_words hts d0 (.fieldLink RX4 75 "EchoBenchModel" "filters" "I") (by decide +kernel)) (fun _ h9 => h9) rfl dX4_best_11 ?_
      refine lv_icmp_ge (tgt := 48) hx hb dX4_best_14 (by decide) (fun _ => ?_) (fun h => absurd (nI_le (by omega) (by omega)) h)
      refine lv_iload_n hx hb dX4_best_48 rfl (lv_at hl 1 rfl) ?_
      have hP9 := hP
      have hD9 := hD
      refine W.endD hd0 ?_
      exact W.iret (v := fd) hx hb hr (fun t ht hW => ⟨⟨fd, (), rfl, by dsimp only; rw [hb9, show j = nf by omega], by rw [ht]; exact hP9, hD9⟩, hS.F ht⟩) hS.2.2 dX4_best_49
    | succ k ih =>
      intro j fd hj hb9 H locs d0 hd0 hP hD hS ls hl
      refine lv_iload_n hx hb dX4_best_9 rfl (lv_at hl 2 rfl) ?_
      refine lv_aload_n hx hb dX4_best_10 rfl (lv_at hl 0 rfl) ?_
      refine va_get (D := G) (ci := 4) (v := .int (nI nf)) (C := RX4) (T := TX4) (N := 24) hx hb (dr_words hts d0) in_X4_best_X4 hown hK hP 0 rfl rfl 8 (by decide) (dr_words hts d0 (.fieldLink RX4 75 "EchoBenchModel" "filters" "I") (by decide +kernel)) (fun _ h9 => h9) rfl dX4_best_11 ?_
      refine lv_icmp_ge (tgt := 48) hx hb dX4_best_14 (by decide) (fun h => absurd h (nI_ge (by omega) (by omega))) (fun _ => ?_)
      refine lv_iload_n hx hb dX4_best_17 rfl (lv_at hl 1 rfl) ?_
      refine lv_iconst (v := (-1)) hx hb dX4_best_18 (by decide) ?_
      rcases hbs : bstN (fun g => sOff (tn (Ti g)) (fun k => dV (Wt (8 * g + k))) pa) j with _ | i
      · skip
        rw [hbs] at hb9
        refine lv_icmp_eq (tgt := 36) hx hb dX4_best_19 (by decide) (fun _ => ?_) (fun h => absurd hb9 h)
        refine lv_iload_n hx hb dX4_best_36 rfl (lv_at hl 2 rfl) ?_
        refine lv_goto (tgt := 41) hx hb dX4_best_37 (by decide) ?_
        refine lv_istore_n (lv' := [(1, .int (nI j)), (0, .ref om), (2, .int (nI j))]) hx hb dX4_best_41 rfl hl (by decide) rfl (fun ls hl => ?_)
        refine lv_iinc (v := nI (j + 1)) (lv' := [(2, .int (nI (j + 1))), (1, .int (nI j)), (0, .ref om)]) hx hb dX4_best_42 hl (k := 2) rfl (nI_succ _).symm (by decide) rfl (fun ls hl => ?_)
        refine lv_goto (tgt := 9) hx hb dX4_best_45 (by decide) ?_
        exact ih (j + 1) (nI j) (by omega) (by unfold bstN; rw [hbs]; rfl) _ _ _ hd0 (hP.sub [0, 1, 2, 3] rfl) (hD.sub [0, 1, 2, 3] (by decide) rfl) hS ls (lv_sub hl [2, 1, 0] rfl)
      rw [hbs] at hb9
      have hij := bstN_lt hbs
      obtain rfl : fd = nI i := hb9
      refine lv_icmp_eq (tgt := 36) hx hb dX4_best_19 (by decide) (fun h => absurd h (fun h => absurd (show (0 : Int32) ≤ -1 from h ▸ nI_pos' (by omega)) (by decide))) (fun _ => ?_)
      refine lv_aload_n hx hb dX4_best_22 rfl (lv_at hl 0 rfl) ?_
      refine lv_iload_n hx hb dX4_best_23 rfl (lv_at hl 2 rfl) ?_
      obtain ⟨n1, t1, n18⟩ := hv j (by omega)
      obtain ⟨n2, t2, n28⟩ := hv i (by omega)
      have hPc := hP.sub (ws' := [(om, .inr (4, [.int 0, .int sa, .ref (am 0), .ref (am 1), .double mi, .ref (am 2), .ref (am 3), .ref (am 4), .int (nI nf), .ref (am 5), .ref (am 6), .ref (am 7), .ref (am 8), .ref (am 9), .ref (am 10), .ref (am 11), .ref (am 12), .ref (am 13), .ref (am 14), .ref (am 15), .ref (am 16), .ref (am 17), .ref (am 18), .ref (am 19)])), ((am 0), aI q 8 pa), ((am 6), aI q 6 Ti), ((am 14), aD q 48 Wt)]) [0, 1, 2, 3] rfl
      have hDc := hD.sub (ws' := [(om, .inr (4, [.int 0, .int sa, .ref (am 0), .ref (am 1), .double mi, .ref (am 2), .ref (am 3), .ref (am 4), .int (nI nf), .ref (am 5), .ref (am 6), .ref (am 7), .ref (am 8), .ref (am 9), .ref (am 10), .ref (am 11), .ref (am 12), .ref (am 13), .ref (am 14), .ref (am 15), .ref (am 16), .ref (am 17), .ref (am 18), .ref (am 19)])), ((am 0), aI q 8 pa), ((am 6), aI q 6 Ti), ((am 14), aD q 48 Wt)]) [0, 1, 2, 3] (by decide) rfl
      have hFc := va_free (wc := [(om, .inr (4, [.int 0, .int sa, .ref (am 0), .ref (am 1), .double mi, .ref (am 2), .ref (am 3), .ref (am 4), .int (nI nf), .ref (am 5), .ref (am 6), .ref (am 7), .ref (am 8), .ref (am 9), .ref (am 10), .ref (am 11), .ref (am 12), .ref (am 13), .ref (am 14), .ref (am 15), .ref (am 16), .ref (am 17), .ref (am 18), .ref (am 19)])), ((am 0), aI q 8 pa), ((am 6), aI q 6 Ti), ((am 14), aD q 48 Wt)]) hD hS hA [0, 1, 2, 3] rfl
      refine va_calldD hd0 (va_runV_D (As := [.int (nI j)]) (rest := []) ⟨hx, hb, hml, hown, (dr_words hts d0)⟩ (m_X4_offBy l G q H.size om am 0 sa mi nf j n1 pa Ti Wt (by omega) n18 t1) (cwV 1 (dr_words hts d0) gX4_best_X4_offBy rfl rfl rfl (by decide +kernel) ⟨Nat.le_of_ble_eq_true rfl, Nat.le_of_ble_eq_true rfl⟩) ⟨preW_blind, (va_recv hK hPc (ci := 4) (q0 := 0) rfl rfl), preW_start (s := s.setDrawn d0) hPc hK hDc (hNF.drawn d0)⟩ rfl rfl hl.1 rfl (lv_room (Nat.le_of_ble_eq_true rfl)) dX4_best_24 ⟨(Nat.zero_le _), (Nat.zero_le _)⟩) hS (fun q _ h => hFc q h) hFc (fun ra u9 t9 H1 locs ht9 hv9 hw hB9 hz9 hk9 hS du5 hu5 => ?_)
      obtain ⟨⟩ := u9
      obtain ⟨hP1, hD1⟩ := hB9
      rw [ht9] at hP1
      obtain ⟨hP, hD⟩ := va_join (wr := []) (w1 := [(om, .inr (4, [.int 0, .int sa, .ref (am 0), .ref (am 1), .double mi, .ref (am 2), .ref (am 3), .ref (am 4), .int (nI nf), .ref (am 5), .ref (am 6), .ref (am 7), .ref (am 8), .ref (am 9), .ref (am 10), .ref (am 11), .ref (am 12), .ref (am 13), .ref (am 14), .ref (am 15), .ref (am 16), .ref (am 17), .ref (am 18), .ref (am 19)])), ((am 0), aI q 8 pa), ((am 6), aI q 6 Ti), ((am 14), aD q 48 Wt)]) hP hD [0, 1, 2, 3] [] rfl rfl (by decide) (by decide) hk9 hFc hP1 hD1
      generalize H1 = H at hP hS ⊢
      have hP : va_P G vwCl [(om, .inr (4, [.int 0, .int sa, .ref (am 0), .ref (am 1), .double mi, .ref (am 2), .ref (am 3), .ref (am 4), .int (nI nf), .ref (am 5), .ref (am 6), .ref (am 7), .ref (am 8), .ref (am 9), .ref (am 10), .ref (am 11), .ref (am 12), .ref (am 13), .ref (am 14), .ref (am 15), .ref (am 16), .ref (am 17), .ref (am 18), .ref (am 19)])), ((am 0), aI q 8 pa), ((am 6), aI q 6 Ti), ((am 14), aD q 48 Wt)] H := hP
      have hD : va_D A [(om, .inr (4, [.int 0, .int sa, .ref (am 0), .ref (am 1), .double mi, .ref (am 2), .ref (am 3), .ref (am 4), .int (nI nf), .ref (am 5), .ref (am 6), .ref (am 7), .ref (am 8), .ref (am 9), .ref (am 10), .ref (am 11), .ref (am 12), .ref (am 13), .ref (am 14), .ref (am 15), .ref (am 16), .ref (am 17), .ref (am 18), .ref (am 19)])), ((am 0), aI q 8 pa), ((am 6), aI q 6 Ti), ((am 14), aD q 48 Wt)] := hD
      have hra := hw
      refine lv_aload_n hx hb dX4_best_27 rfl (lv_at hl 0 rfl) ?_
      refine lv_iload_n hx hb dX4_best_28 rfl (lv_at hl 1 rfl) ?_
      have hPc := hP.sub (ws' := [(om, .inr (4, [.int 0, .int sa, .ref (am 0), .ref (am 1), .double mi, .ref (am 2), .ref (am 3), .ref (am 4), .int (nI nf), .ref (am 5), .ref (am 6), .ref (am 7), .ref (am 8), .ref (am 9), .ref (am 10), .ref (am 11), .ref (am 12), .ref (am 13), .ref (am 14), .ref (am 15), .ref (am 16), .ref (am 17), .ref (am 18), .ref (am 19)])), ((am 0), aI q 8 pa), ((am 6), aI q 6 Ti), ((am 14), aD q 48 Wt)]) [0, 1, 2, 3] rfl
      have hDc := hD.sub (ws' := [(om, .inr (4, [.int 0, .int sa, .ref (am 0), .ref (am 1), .double mi, .ref (am 2), .ref (am 3), .ref (am 4), .int (nI nf), .ref (am 5), .ref (am 6), .ref (am 7), .ref (am 8), .ref (am 9), .ref (am 10), .ref (am 11), .ref (am 12), .ref (am 13), .ref (am 14), .ref (am 15), .ref (am 16), .ref (am 17), .ref (am 18), .ref (am 19)])), ((am 0), aI q 8 pa), ((am 6), aI q 6 Ti), ((am 14), aD q 48 Wt)]) [0, 1, 2, 3] (by decide) rfl
      have hFc := va_free (wc := [(om, .inr (4, [.int 0, .int sa, .ref (am 0), .ref (am 1), .double mi, .ref (am 2), .ref (am 3), .ref (am 4), .int (nI nf), .ref (am 5), .ref (am 6), .ref (am 7), .ref (am 8), .ref (am 9), .ref (am 10), .ref (am 11), .ref (am 12), .ref (am 13), .ref (am 14), .ref (am 15), .ref (am 16), .ref (am 17), .ref (am 18), .ref (am 19)])), ((am 0), aI q 8 pa), ((am 6), aI q 6 Ti), ((am 14), aD q 48 Wt)]) hD hS hA [0, 1, 2, 3] rfl
      refine va_calldD hu5 (va_runV_D (As := [.int (nI i)]) (rest := [.double ra]) ⟨hx, hb, hml, hown, (dr_words hts du5)⟩ (m_X4_offBy l G q H.size om am 0 sa mi nf i n2 pa Ti Wt (by omega) n28 t2) (cwV 1 (dr_words hts du5) gX4_best_X4_offBy rfl rfl rfl (by decide +kernel) ⟨Nat.le_of_ble_eq_true rfl, Nat.le_of_ble_eq_true rfl⟩) ⟨preW_blind, (va_recv hK hPc (ci := 4) (q0 := 0) rfl rfl), preW_start (s := s.setDrawn du5) hPc hK hDc (hNF.drawn du5)⟩ rfl rfl hl.1 rfl (lv_room (Nat.le_of_ble_eq_true rfl)) dX4_best_29 ⟨(Nat.zero_le _), (Nat.zero_le _)⟩) hS (fun q _ h => hFc q h) hFc (fun rb u9 t9 H1 locs ht9 hv9 hw hB9 hz9 hk9 hS du6 hu6 => ?_)
      obtain ⟨⟩ := u9
      obtain ⟨hP1, hD1⟩ := hB9
      rw [ht9] at hP1
      obtain ⟨hP, hD⟩ := va_join (wr := []) (w1 := [(om, .inr (4, [.int 0, .int sa, .ref (am 0), .ref (am 1), .double mi, .ref (am 2), .ref (am 3), .ref (am 4), .int (nI nf), .ref (am 5), .ref (am 6), .ref (am 7), .ref (am 8), .ref (am 9), .ref (am 10), .ref (am 11), .ref (am 12), .ref (am 13), .ref (am 14), .ref (am 15), .ref (am 16), .ref (am 17), .ref (am 18), .ref (am 19)])), ((am 0), aI q 8 pa), ((am 6), aI q 6 Ti), ((am 14), aD q 48 Wt)]) hP hD [0, 1, 2, 3] [] rfl rfl (by decide) (by decide) hk9 hFc hP1 hD1
      generalize H1 = H at hP hS ⊢
      have hP : va_P G vwCl [(om, .inr (4, [.int 0, .int sa, .ref (am 0), .ref (am 1), .double mi, .ref (am 2), .ref (am 3), .ref (am 4), .int (nI nf), .ref (am 5), .ref (am 6), .ref (am 7), .ref (am 8), .ref (am 9), .ref (am 10), .ref (am 11), .ref (am 12), .ref (am 13), .ref (am 14), .ref (am 15), .ref (am 16), .ref (am 17), .ref (am 18), .ref (am 19)])), ((am 0), aI q 8 pa), ((am 6), aI q 6 Ti), ((am 14), aD q 48 Wt)] H := hP
      have hD : va_D A [(om, .inr (4, [.int 0, .int sa, .ref (am 0), .ref (am 1), .double mi, .ref (am 2), .ref (am 3), .ref (am 4), .int (nI nf), .ref (am 5), .ref (am 6), .ref (am 7), .ref (am 8), .ref (am 9), .ref (am 10), .ref (am 11), .ref (am 12), .ref (am 13), .ref (am 14), .ref (am 15), .ref (am 16), .ref (am 17), .ref (am 18), .ref (am 19)])), ((am 0), aI q 8 pa), ((am 6), aI q 6 Ti), ((am 14), aD q 48 Wt)] := hD
      have hrb := hw
      refine lv_dcmp hx hb dX4_best_32 ?_
      have hra : dV ra = (fun g => sOff (tn (Ti g)) (fun k => dV (Wt (8 * g + k))) pa) j := by show _ = sOff (tn (Ti j)) _ pa; rw [t1, tn_nI (by omega)]; exact hra
      have hrb : dV rb = (fun g => sOff (tn (Ti g)) (fun k => dV (Wt (8 * g + k))) pa) i := by show _ = sOff (tn (Ti i)) _ pa; rw [t2, tn_nI (by omega)]; exact hrb
      refine lv_if_ge (tgt := 40) hx hb dX4_best_33 (by decide) (fun c1 => ?_) (fun c1 => ?_)
      · skip
        rw [cg_ge, dcmp_fO, hra, hrb] at c1
        refine lv_iload_n hx hb dX4_best_40 rfl (lv_at hl 1 rfl) ?_
        refine lv_istore_n (lv' := [(1, .int (nI i)), (0, .ref om), (2, .int (nI j))]) hx hb dX4_best_41 rfl hl (by decide) rfl (fun ls hl => ?_)
        refine lv_iinc (v := nI (j + 1)) (lv' := [(2, .int (nI (j + 1))), (1, .int (nI i)), (0, .ref om)]) hx hb dX4_best_42 hl (k := 2) rfl (nI_succ _).symm (by decide) rfl (fun ls hl => ?_)
        refine lv_goto (tgt := 9) hx hb dX4_best_45 (by decide) ?_
        exact ih (j + 1) (nI i) (by omega) (by unfold bstN; rw [hbs]; dsimp only; rw [if_neg c1]; rfl) _ _ _ hu6 (hP.sub [0, 1, 2, 3] rfl) (hD.sub [0, 1, 2, 3] (by decide) rfl) hS ls (lv_sub hl [2, 1, 0] rfl)
      · skip
        rw [cg_ge, dcmp_fO, hra, hrb, Classical.not_not] at c1
        refine lv_iload_n hx hb dX4_best_36 rfl (lv_at hl 2 rfl) ?_
        refine lv_goto (tgt := 41) hx hb dX4_best_37 (by decide) ?_
        refine lv_istore_n (lv' := [(1, .int (nI j)), (0, .ref om), (2, .int (nI j))]) hx hb dX4_best_41 rfl hl (by decide) rfl (fun ls hl => ?_)
        refine lv_iinc (v := nI (j + 1)) (lv' := [(2, .int (nI (j + 1))), (1, .int (nI j)), (0, .ref om)]) hx hb dX4_best_42 hl (k := 2) rfl (nI_succ _).symm (by decide) rfl (fun ls hl => ?_)
        refine lv_goto (tgt := 9) hx hb dX4_best_45 (by decide) ?_
        exact ih (j + 1) (nI j) (by omega) (by unfold bstN; rw [hbs]; dsimp only; rw [if_pos c1]; rfl) _ _ _ hu6 (hP.sub [0, 1, 2, 3] rfl) (hD.sub [0, 1, 2, 3] (by decide) rfl) hS ls (lv_sub hl [2, 1, 0] rfl)
  exact LOOP nf 0 (-1) (by omega) rfl _ _ _ hd0 (hP.sub [0, 1, 2, 3] rfl) (hD.sub [0, 1, 2, 3] (by decide) rfl) hS ls (lv_sub hl [2, 1, 0] rfl)
