/-! ===== a filter of the class: (addresses: object weights errors square numbers g shares; the rows' addresses; taps; kind th watch tail left had held resets; output error; weights errors g shares; P) ===== -/
abbrev CFt : Type := (Nat → Nat) × (Nat → Nat) × Nat × (Nat → Int32) × (Nat → UInt64) × (Nat → Nat → UInt64) × (Nat → Nat → UInt64)
abbrev cAd (v : CFt) (k : Nat) : Nat := v.1 k
abbrev cRw (v : CFt) : Nat → Nat := v.2.1
abbrev cNn (v : CFt) : Nat := v.2.2.1
abbrev cIn (v : CFt) (k : Nat) : Int32 := v.2.2.2.1 k
abbrev cDb (v : CFt) (k : Nat) : UInt64 := v.2.2.2.2.1 k
abbrev cAr (v : CFt) (k : Nat) : Nat → UInt64 := v.2.2.2.2.2.1 k
abbrev cPm (v : CFt) : Nat → Nat → UInt64 := v.2.2.2.2.2.2
def sqV (v : CFt) : Value := if cIn v 0 = 3 then .ref (cAd v 3) else .null
def sqX (q : Nat → ClassId) (v : CFt) : va_W := if cIn v 0 = 3 then
  [(cAd v 3, .inr (2, [.int (nI (cNn v)), .ref (cAd v 4), .ref (cAd v 5), .ref (cAd v 6)])), (cAd v 4, aA q (cNn v) (fun j => if j < cNn v then some (cRw v j) else none)), (cAd v 5, aD q (cNn v) (cAr v 2)), (cAd v 6, aD q (cNn v) (cAr v 3))] ++ rowsW q (cNn v) (cNn v) (cRw v) (cPm v)
  else []
def fObj (v : CFt) : Nat × va_E := (cAd v 0, .inr (0, [.int (cIn v 0), .ref (cAd v 1), .ref (cAd v 2), sqV v, .int (cIn v 1), .int (cIn v 2), .int (cIn v 3), .int (cIn v 4), .double (cDb v 0), .double (cDb v 1), .int (cIn v 5), .int (cIn v 6), .int (cIn v 7)]))
def fW (q : Nat → ClassId) (v : CFt) : va_W := fObj v :: (cAd v 1, aD q (cNn v) (cAr v 0)) :: (cAd v 2, aD q 16 (cAr v 1)) :: sqX q v
/-- its values -/
def vcF (v : CFt) : FV := ((cIn v 0, nI (cNn v), cIn v 1, cIn v 2, cIn v 3), (cIn v 4, cIn v 5, cIn v 6, cIn v 7), (dV (cDb v 0), dV (cDb v 1)),
  cutN (cNn v) (fun j => dV (cAr v 0 j)), cutN 16 (fun j => dV (cAr v 1 j)), cutP (cIn v 0 = 3) (cNn v) (fun a c => dV (cPm v a c)))
/-- what holds of it -/
def okF (T : Nat) (v : CFt) : Prop := 1 ≤ cNn v ∧ cNn v ≤ 8 ∧ (cIn v 0 = 3 → cNn v ≤ 4) ∧ (∃ tt, cIn v 5 = nI tt ∧ tt ≤ T) ∧ 0 ≤ cIn v 4 ∧ 0 ≤ cIn v 3 ∧ (∀ j, j < cNn v → dV (cAr v 0 j) ≠ nzD) ∧ stpB (cIn v 0) (cIn v 1)
theorem okF_vS {T : Nat} {v : CFt} (h : okF T v) : vS T (vcF v) := by
  obtain ⟨h1, h2, h3, ⟨tt, h4, h5⟩, -⟩ := h
  exact ⟨cNn v, tt, rfl, h1, h2, h3, h4, h5⟩
/-- the same filter behind a call: where it lies -/
def sameF (u v : CFt) : Prop := u.1 = v.1 ∧ u.2.1 = v.2.1 ∧ u.2.2.1 = v.2.2.1
/-- what hear leaves, a filter of no RLS -/
def hearU (v : CFt) (tt : Nat) (o e : UInt64) (w : Nat → UInt64) (lg cg : Int32) : CFt :=
  (v.1, v.2.1, v.2.2.1, (fun k => if k = 4 then lg else if k = 5 then nI (tt + 1) else if k = 6 then cg else cIn v k), (fun k => if k = 0 then o else e), (fun k => if k = 0 then w else if k = 1 then vf_upd (cAr v 1) (tt % 16) e else cAr v k), v.2.2.2.2.2.2)
theorem cutP_no {k : Prop} [Decidable k] (h : ¬ k) (n m : Nat) (f g : Nat → Nat → Dt) : cutP k n f = cutP k m g := by
  funext a c
  unfold cutP
  rw [if_neg (fun z => h z.1), if_neg (fun z => h z.1)]
theorem dec_lf {lf : Int32} (h : 0 < lf) : 0 ≤ lf - 1 := by
  obtain ⟨j, hj, rfl⟩ := nI_of (Int32.not_lt.mpr (Int32.le_of_lt h))
  have h0 : 0 < j := (nI_ltI (a := 0) (by omega) hj).mp h
  rw [nI_pm h0]
  exact nI_pos' (by omega)
theorem hearU_ok {xi : Nat → Int32} {mi : UInt64} {v : CFt} {T tt : Nat} {o e : UInt64} {w : Nat → UInt64} {lg cg : Int32} (hk : ¬ cIn v 0 = 3) (hx : small xi) (hv : okF T v) (htt : cIn v 5 = nI tt) (hle : tt ≤ T) (hT : T < 2000)
    (h1 : dV o = sOut (cNn v) (fun k => dV (cAr v 0 k)) xi) (h2 : dV e = fSub (dV mi) (sOut (cNn v) (fun k => dV (cAr v 0 k)) xi))
    (h3 : ∀ j, j < cNn v → dV (w j) = if sLoud (cIn v 2) (cNn v) xi (dV mi) ∨ 0 < cIn v 4 then dV (cAr v 0 j) else sUp (dV (cAr v 0 j)) (sLes (cIn v 0) (cIn v 1) (fSub (dV mi) (sOut (cNn v) (fun k => dV (cAr v 0 k)) xi)) (fI (xi j)) (sNm (cIn v 0) (cNn v) xi)))
    (h4 : lg = if sLoud (cIn v 2) (cNn v) xi (dV mi) then cIn v 3 else if 0 < cIn v 4 then cIn v 4 - 1 else cIn v 4)
    (h5 : cg = if sLoud (cIn v 2) (cNn v) xi (dV mi) ∨ 0 < cIn v 4 then cIn v 6 + 1 else cIn v 6) :
    vcF (hearU v tt o e w lg cg) = hearM xi (dV mi) (vcF v) ∧ okF (T + 1) (hearU v tt o e w lg cg) := by
  obtain ⟨v1, v2, v3, v4, v5, v6, v7, v8⟩ := hv
  have hL := sLoud_iff (wa := cIn v 2) (mi := mi) v2 hx
  have hn : hmN (vcF v) = cNn v := tn_nI (by omega)
  have hWc : ∀ j, j < cNn v → (vcF v).2.2.2.1 j = dV (cAr v 0 j) := fun j hj => (cutN_at hj : cutN (cNn v) (fun j => dV (cAr v 0 j)) j = _)
  have hOut : hmOut xi (vcF v) = sOut (cNn v) (fun k => dV (cAr v 0 k)) xi := by unfold hmOut; rw [hn]; exact sOut_congr hWc
  have hErr : hmErr xi (dV mi) (vcF v) = fSub (dV mi) (sOut (cNn v) (fun k => dV (cAr v 0 k)) xi) := by unfold hmErr; rw [hOut]
  have hlf : ¬ 0 < cIn v 4 → cIn v 4 = 0 := fun h => Int32.le_antisymm (Int32.not_lt.mp h) v5
  refine ⟨?_, v1, v2, v3, ⟨tt + 1, rfl, by omega⟩, ?_, v6, ?_, v8⟩
  · unfold hearM
    rw [hOut, hErr]
    refine Prod.ext rfl (Prod.ext ?_ (Prod.ext ?_ (Prod.ext ?_ (Prod.ext ?_ ?_))))
    · show (lg, nI (tt + 1), cg, cIn v 7) = _
      refine Prod.ext ?_ (Prod.ext ?_ (Prod.ext ?_ ?_))
      · show lg = if sLoudM (cIn v 2) (hmN (vcF v)) xi (dV mi) then cIn v 3 else if 0 < cIn v 4 then cIn v 4 - 1 else 0
        simp only [hn]
        rw [h4]
        by_cases a : sLoud (cIn v 2) (cNn v) xi (dV mi)
        · rw [if_pos a, if_pos (hL.mp a)]
        · rw [if_neg a, if_neg (fun z => a (hL.mpr z))]
          by_cases b : 0 < cIn v 4
          · rw [if_pos b, if_pos b]
          · rw [if_neg b, if_neg b, hlf b]
      · show nI (tt + 1) = cIn v 5 + 1
        rw [htt]
        exact nI_succ tt
      · show cg = if sLoudM (cIn v 2) (hmN (vcF v)) xi (dV mi) ∨ 0 < cIn v 4 then cIn v 6 + 1 else cIn v 6
        simp only [hn]
        rw [h5]
        by_cases a : sLoud (cIn v 2) (cNn v) xi (dV mi) ∨ 0 < cIn v 4
        · rw [if_pos a, if_pos (a.imp_left hL.mp)]
        · rw [if_neg a, if_neg (fun z => a (z.imp_left hL.mpr))]
      · show cIn v 7 = if _ then _ else cIn v 7
        rw [if_neg (fun z => hk z.1.2)]
    · show (dV o, dV e) = _
      rw [h1, h2]
    · show cutN (cNn v) (fun j => dV (w j)) = cutN (hmN (vcF v)) _
      rw [show cutN (hmN (vcF v)) = cutN (cNn v) by rw [hn]]
      refine cutN_eq fun j hj => ?_
      rw [h3 j hj, hWc j hj]
      show _ = if sLoudM (cIn v 2) (hmN (vcF v)) xi (dV mi) ∨ 0 < cIn v 4 then _ else if cIn v 0 = 3 then _ else sUp (dV (cAr v 0 j)) (sLesM (cIn v 0) (cIn v 1) (fSub (dV mi) (sOut (cNn v) (fun k => dV (cAr v 0 k)) xi)) (fI (xi j)) (sNorm (hmN (vcF v)) xi))
      simp only [hn]
      by_cases a : sLoud (cIn v 2) (cNn v) xi (dV mi) ∨ 0 < cIn v 4
      · rw [if_pos a, if_pos (a.imp_left hL.mp)]
      · rw [if_neg a, if_neg (fun z => a (z.imp_left hL.mpr)), if_neg hk]
        exact les_eq (ok_dV _) (v7 j hj) hx v2
    · show cutN 16 (fun j => dV (vf_upd (cAr v 1) (tt % 16) e j)) = _
      refine cutN_eq fun j hj => ?_
      show _ = if j = tn (cIn v 5) % 16 then _ else cutN 16 (fun j => dV (cAr v 1 j)) j
      rw [htt, tn_nI (by omega), cutN_at hj]
      unfold vf_upd
      by_cases a : j = tt % 16
      · rw [if_pos a, if_pos a, h2]
      · rw [if_neg a, if_neg a]
    · exact cutP_no hk _ _ _ _
  · show 0 ≤ lg
    rw [h4]
    split
    · exact v6
    · split
      · rename_i b; exact dec_lf b
      · exact v5
  · intro j hj
    show dV (w j) ≠ nzD
    rw [h3 j hj]
    split
    · exact v7 j hj
    · rw [les_eq (ok_dV _) (v7 j hj) hx v2]
      exact nz_up (ok_dV _) ok_lesM (v7 j hj)
theorem sqV_n {v : CFt} (h : ¬ cIn v 0 = 3) : sqV v = .null := if_neg h
theorem sqX_n {q : Nat → ClassId} {v : CFt} (h : ¬ cIn v 0 = 3) : sqX q v = [] := if_neg h
theorem sqV_r {v : CFt} (h : cIn v 0 = 3) : sqV v = .ref (cAd v 3) := if_pos h
/-- hear, of a filter of no RLS, over a filter as a value -/
theorem c_hearN (l : Launch) (G : va_G) (q : Nat → ClassId) (sz : Nat) (v : CFt) (T ax : Nat) (xi : Nat → Int32) (mi : UInt64) (hk : ¬ cIn v 0 = 3) (hv : okF T v) (hT : T < 2000) (hx : small xi) :
    MetD lw_cs l yX0_hear wsX0_hear ({ frames := 6, cells := 0, slots := 0, locals := 200 } : Jvm.Room) (PreW G q [.ref (cAd v 0), .ref ax, .double mi] (fW q v ++ [(ax, aD q 8 (fun k => FP.i2d (xi k)))]) sz)
      (va_Qv (fun u : CFt => sameF u v ∧ vcF u = hearM xi (dV mi) (vcF v) ∧ okF (T + 1) u) (fun u t => EndA G (va_A (fW q v ++ [(ax, aD q 8 (fun k => FP.i2d (xi k)))]) sz) (fW q u ++ [(ax, aD q 8 (fun k => FP.i2d (xi k)))]) t) (va_A (fW q v ++ [(ax, aD q 8 (fun k => FP.i2d (xi k)))]) sz)) 0 0 (va_A (fW q v ++ [(ax, aD q 8 (fun k => FP.i2d (xi k)))]) sz) := by
  obtain ⟨tt, ht, hle⟩ := hv.2.2.2.1
  have h0 := m_X0_hearN l G q sz (cAd v 0) (cAd v 1) (cAd v 2) ax (cNn v) tt (cIn v 0) (cIn v 1) (cIn v 2) (cIn v 3) (cIn v 4) (cIn v 6) (cIn v 7) (cDb v 0) (cDb v 1) (cAr v 0) (cAr v 1) xi mi hv.2.1 (by omega)
  have e0 : fW q v ++ [(ax, aD q 8 (fun k => FP.i2d (xi k)))] = [(cAd v 0, .inr (0, [.int (cIn v 0), .ref (cAd v 1), .ref (cAd v 2), .null, .int (cIn v 1), .int (cIn v 2), .int (cIn v 3), .int (cIn v 4), .double (cDb v 0), .double (cDb v 1), .int (nI tt), .int (cIn v 6), .int (cIn v 7)])), (cAd v 1, aD q (cNn v) (cAr v 0)), (cAd v 2, aD q 16 (cAr v 1)), (ax, aD q 8 (fun k => FP.i2d (xi k)))] := by
    unfold fW fObj
    rw [sqX_n hk, sqV_n hk, ht]
    rfl
  rw [e0]
  refine h0.cons (fun _ _ h => h) (fun a U d o t hP hQ => ?_) (fun _ h => h)
  obtain ⟨⟨u, h1, h2, h3⟩, h4⟩ := hQ
  have h5 := hearU_ok hk hx hv ht hle hT h2.1 h2.2.1 h2.2.2.1 h2.2.2.2.1 h2.2.2.2.2
  refine ⟨⟨hearU v tt u.1 u.2.1 u.2.2.1 u.2.2.2.1 u.2.2.2.2, h1, ⟨⟨rfl, rfl, rfl⟩, h5⟩, ?_⟩, h4⟩
  have e1 : fW q (hearU v tt u.1 u.2.1 u.2.2.1 u.2.2.2.1 u.2.2.2.2) = fObj (hearU v tt u.1 u.2.1 u.2.2.1 u.2.2.2.1 u.2.2.2.2) :: (cAd v 1, aD q (cNn v) u.2.2.1) :: (cAd v 2, aD q 16 (vf_upd (cAr v 1) (tt % 16) u.2.1)) :: [] := by
    unfold fW
    rw [sqX_n (v := hearU v tt u.1 u.2.1 u.2.2.1 u.2.2.2.1 u.2.2.2.2) hk]
    rfl
  dsimp only
  rw [e1]
  unfold fObj
  rw [sqV_n (v := hearU v tt u.1 u.2.1 u.2.2.1 u.2.2.2.1 u.2.2.2.2) hk]
  exact h3
