/-! ===== RLS: hear, over a filter as a value ===== -/
abbrev gRes (n : Nat) (mu : Dt) (P : Nat → Nat → Dt) (xi : Nat → Int32) : Prop := gLow n mu P xi ∨ ¬ gAll (fun i => gQ n mu P xi i i) n = true
def gW (n : Nat) (mu er : Dt) (P : Nat → Nat → Dt) (xi : Nat → Int32) (w : Dt) (j : Nat) : Dt := if gLow n mu P xi then w else sUp w (gMul (gK n mu P xi j) er)
def gP (n : Nat) (mu : Dt) (P : Nat → Nat → Dt) (xi : Nat → Int32) (a c : Nat) : Dt := if gRes n mu P xi then (if a = c then dV H100 else dV 0) else gQ n mu P xi a c
theorem gK_congr {n : Nat} {mu : Dt} {P Q : Nat → Nat → Dt} {xi : Nat → Int32} (h : ∀ a c, a < n → c < n → P a c = Q a c) {j : Nat} (hj : j < n) : gK n mu P xi j = gK n mu Q xi j := by
  unfold gK
  rw [gOut_congr (fun c hc => h j c hj hc), gM_congr h]
theorem gQ_congr {n : Nat} {mu : Dt} {P Q : Nat → Nat → Dt} {xi : Nat → Int32} (h : ∀ a c, a < n → c < n → P a c = Q a c) {i j : Nat} (hi : i < n) (hj : j < n) : gQ n mu P xi i j = gQ n mu Q xi i j := by
  unfold gQ
  rw [gK_congr h hi, h i j hi hj, gOut_congr (fun c hc => h j c hj hc)]
theorem gLow_congr {n : Nat} {mu : Dt} {P Q : Nat → Nat → Dt} {xi : Nat → Int32} (h : ∀ a c, a < n → c < n → P a c = Q a c) : gLow n mu P xi ↔ gLow n mu Q xi := by
  unfold gLow
  rw [gM_congr h]
theorem gRes_congr {n : Nat} {mu : Dt} {P Q : Nat → Nat → Dt} {xi : Nat → Int32} (h : ∀ a c, a < n → c < n → P a c = Q a c) : gRes n mu P xi ↔ gRes n mu Q xi := by
  unfold gRes gLow
  rw [gM_congr h, gAll_congr (fun i hi => gQ_congr h hi hi)]
/-- what hear makes of an RLS filter -/
def hear3 (xi : Nat → Int32) (mi : Dt) (v : FV) : FV :=
  (v.1,
   (if sLoudM v.1.2.2.2.1 (hmN v) xi mi then v.1.2.2.2.2 else if 0 < v.2.1.1 then v.2.1.1 - 1 else 0,
    v.2.1.2.1 + 1,
    if hmHold' xi mi v then v.2.1.2.2.1 + 1 else v.2.1.2.2.1,
    if hmHold' xi mi v then v.2.1.2.2.2 else if gRes (hmN v) (hmMu v) v.2.2.2.2.2 xi then v.2.1.2.2.2 + 1 else v.2.1.2.2.2),
   (hmOut xi v, hmErr xi mi v),
   cutN (hmN v) (fun j => if hmHold' xi mi v then v.2.2.2.1 j else gW (hmN v) (hmMu v) (hmErr xi mi v) v.2.2.2.2.2 xi (v.2.2.2.1 j) j),
   cutN 16 (fun j => if j = tn v.2.1.2.1 % 16 then hmErr xi mi v else v.2.2.2.2.1 j),
   cutP (v.1.1 = 3) (hmN v) (fun a c => if hmHold' xi mi v then v.2.2.2.2.2 a c else gP (hmN v) (hmMu v) v.2.2.2.2.2 xi a c))
def hearG (xi : Nat → Int32) (mi : Dt) (v : FV) : FV := if v.1.1 = 3 then hear3 xi mi v else hearM xi mi v
def hear3U (v : CFt) (tt : Nat) (o e : UInt64) (w : Nat → UInt64) (lg cg rs : Int32) (g k : Nat → UInt64) (P : Nat → Nat → UInt64) : CFt :=
  (v.1, v.2.1, v.2.2.1, (fun z => if z = 4 then lg else if z = 5 then nI (tt + 1) else if z = 6 then cg else if z = 7 then rs else cIn v z), (fun z => if z = 0 then o else e), (fun z => if z = 0 then w else if z = 1 then vf_upd (cAr v 1) (tt % 16) e else if z = 2 then g else if z = 3 then k else cAr v z), P)
theorem hear3_ok {xi : Nat → Int32} {mi : UInt64} {v : CFt} {T tt : Nat} {o e : UInt64} {w : Nat → UInt64} {lg cg rs : Int32} {g k : Nat → UInt64} {P : Nat → Nat → UInt64} (hk : cIn v 0 = 3) (hx : small xi) (hv : okF T v) (htt : cIn v 5 = nI tt) (hle : tt ≤ T) (hT : T < 2000)
    (h1 : dV o = sOut (cNn v) (fun k => dV (cAr v 0 k)) xi) (h2 : dV e = fSub (dV mi) (sOut (cNn v) (fun k => dV (cAr v 0 k)) xi))
    (h3 : ∀ j, j < cNn v → dV (w j) = if sLoud (cIn v 2) (cNn v) xi (dV mi) ∨ 0 < cIn v 4 then dV (cAr v 0 j) else if gLow (cNn v) (fDiv (fI (cIn v 1)) k1000) (fun i j => dV (cPm v i j)) xi then dV (cAr v 0 j) else sUp (dV (cAr v 0 j)) (gMul (gK (cNn v) (fDiv (fI (cIn v 1)) k1000) (fun i j => dV (cPm v i j)) xi j) (fSub (dV mi) (sOut (cNn v) (fun k => dV (cAr v 0 k)) xi))))
    (h3n : ∀ j, j < cNn v → dV (cAr v 0 j) ≠ nzD → dV (w j) ≠ nzD)
    (h4 : lg = if sLoud (cIn v 2) (cNn v) xi (dV mi) then cIn v 3 else if 0 < cIn v 4 then cIn v 4 - 1 else cIn v 4)
    (h5 : cg = if sLoud (cIn v 2) (cNn v) xi (dV mi) ∨ 0 < cIn v 4 then cIn v 6 + 1 else cIn v 6)
    (h6 : ∀ a c, a < cNn v → c < cNn v → dV (P a c) = if sLoud (cIn v 2) (cNn v) xi (dV mi) ∨ 0 < cIn v 4 then dV (cPm v a c) else if gRes (cNn v) (fDiv (fI (cIn v 1)) k1000) (fun i j => dV (cPm v i j)) xi then (if a = c then dV H100 else dV 0) else gQ (cNn v) (fDiv (fI (cIn v 1)) k1000) (fun i j => dV (cPm v i j)) xi a c)
    (h7 : rs = if sLoud (cIn v 2) (cNn v) xi (dV mi) ∨ 0 < cIn v 4 then cIn v 7 else if gRes (cNn v) (fDiv (fI (cIn v 1)) k1000) (fun i j => dV (cPm v i j)) xi then cIn v 7 + 1 else cIn v 7) :
    vcF (hear3U v tt o e w lg cg rs g k P) = hearG xi (dV mi) (vcF v) ∧ okF (T + 1) (hear3U v tt o e w lg cg rs g k P) := by
  obtain ⟨v1, v2, v3, v4, v5, v6, v7, v8⟩ := hv
  have hL := sLoud_iff (wa := cIn v 2) (mi := mi) v2 hx
  have hn : hmN (vcF v) = cNn v := tn_nI (by omega)
  have hWc : ∀ j, j < cNn v → (vcF v).2.2.2.1 j = dV (cAr v 0 j) := fun j hj => (cutN_at hj : cutN (cNn v) (fun j => dV (cAr v 0 j)) j = _)
  have hPc : ∀ a c, a < cNn v → c < cNn v → (vcF v).2.2.2.2.2 a c = dV (cPm v a c) := fun a c ha hc => (cutP_at hk ha hc : cutP (cIn v 0 = 3) (cNn v) (fun a c => dV (cPm v a c)) a c = _)
  have hOut : hmOut xi (vcF v) = sOut (cNn v) (fun k => dV (cAr v 0 k)) xi := by unfold hmOut; rw [hn]; exact sOut_congr hWc
  have hErr : hmErr xi (dV mi) (vcF v) = fSub (dV mi) (sOut (cNn v) (fun k => dV (cAr v 0 k)) xi) := by unfold hmErr; rw [hOut]
  have hMu : hmMu (vcF v) = fDiv (fI (cIn v 1)) k1000 := rfl
  have hlf : ¬ 0 < cIn v 4 → cIn v 4 = 0 := fun h => Int32.le_antisymm (Int32.not_lt.mp h) v5
  have hH : hmHold' xi (dV mi) (vcF v) ↔ (sLoud (cIn v 2) (cNn v) xi (dV mi) ∨ 0 < cIn v 4) := by
    show (sLoudM (cIn v 2) (hmN (vcF v)) xi (dV mi) ∨ 0 < cIn v 4) ↔ _
    rw [hn]
    exact ⟨fun z => z.imp_left hL.mpr, fun z => z.imp_left hL.mp⟩
  have hR : gRes (cNn v) (fDiv (fI (cIn v 1)) k1000) (vcF v).2.2.2.2.2 xi ↔ gRes (cNn v) (fDiv (fI (cIn v 1)) k1000) (fun i j => dV (cPm v i j)) xi := gRes_congr hPc
  have hLo : gLow (cNn v) (fDiv (fI (cIn v 1)) k1000) (vcF v).2.2.2.2.2 xi ↔ gLow (cNn v) (fDiv (fI (cIn v 1)) k1000) (fun i j => dV (cPm v i j)) xi := gLow_congr hPc
  refine ⟨?_, v1, v2, v3, ⟨tt + 1, rfl, by omega⟩, ?_, v6, ?_, v8⟩
  · rw [show hearG xi (dV mi) (vcF v) = hear3 xi (dV mi) (vcF v) from if_pos hk]
    unfold hear3
    rw [hOut, hErr, hMu]
    refine Prod.ext rfl (Prod.ext ?_ (Prod.ext ?_ (Prod.ext ?_ (Prod.ext ?_ ?_))))
    · show (lg, nI (tt + 1), cg, rs) = _
      refine Prod.ext ?_ (Prod.ext ?_ (Prod.ext ?_ ?_))
      · show lg = if sLoudM (cIn v 2) (hmN (vcF v)) xi (dV mi) then cIn v 3 else if 0 < cIn v 4 then cIn v 4 - 1 else 0
        simp only [hn]
        rw [h4]
        by_cases a : sLoud (cIn v 2) (cNn v) xi (dV mi)
        · rw [if_pos a, if_pos (hL.mp a)]
        · rw [if_neg a, if_neg (fun z => a (hL.mpr z))]
          by_cases b : 0 < cIn v 4
          · rw [if_pos b, if_pos b]
          · rw [if_neg b, if_neg b, hlf b]
      · show nI (tt + 1) = cIn v 5 + 1
        rw [htt]
        exact nI_succ tt
      · show cg = if hmHold' xi (dV mi) (vcF v) then cIn v 6 + 1 else cIn v 6
        rw [h5]
        by_cases a : sLoud (cIn v 2) (cNn v) xi (dV mi) ∨ 0 < cIn v 4
        · rw [if_pos a, if_pos (hH.mpr a)]
        · rw [if_neg a, if_neg (fun z => a (hH.mp z))]
      · show rs = if hmHold' xi (dV mi) (vcF v) then cIn v 7 else if gRes (hmN (vcF v)) (fDiv (fI (cIn v 1)) k1000) (vcF v).2.2.2.2.2 xi then cIn v 7 + 1 else cIn v 7
        rw [h7]
        simp only [hn]
        by_cases a : sLoud (cIn v 2) (cNn v) xi (dV mi) ∨ 0 < cIn v 4
        · rw [if_pos a, if_pos (hH.mpr a)]
        · rw [if_neg a, if_neg (fun z => a (hH.mp z))]
          by_cases b : gRes (cNn v) (fDiv (fI (cIn v 1)) k1000) (fun i j => dV (cPm v i j)) xi
          · rw [if_pos b, if_pos (hR.mpr b)]
          · rw [if_neg b, if_neg (fun z => b (hR.mp z))]
    · show (dV o, dV e) = _
      rw [h1, h2]
    · show cutN (cNn v) (fun j => dV (w j)) = cutN (hmN (vcF v)) _
      simp only [hn]
      refine cutN_eq fun j hj => ?_
      rw [h3 j hj, hWc j hj]
      by_cases a : sLoud (cIn v 2) (cNn v) xi (dV mi) ∨ 0 < cIn v 4
      · rw [if_pos a, if_pos (hH.mpr a)]
      · rw [if_neg a, if_neg (fun z => a (hH.mp z))]
        unfold gW
        by_cases b : gLow (cNn v) (fDiv (fI (cIn v 1)) k1000) (fun i j => dV (cPm v i j)) xi
        · rw [if_pos b, if_pos (hLo.mpr b)]
        · rw [if_neg b, if_neg (fun z => b (hLo.mp z)), gK_congr hPc hj]
    · show cutN 16 (fun j => dV (vf_upd (cAr v 1) (tt % 16) e j)) = _
      refine cutN_eq fun j hj => ?_
      show _ = if j = tn (cIn v 5) % 16 then _ else cutN 16 (fun j => dV (cAr v 1 j)) j
      rw [htt, tn_nI (by omega), cutN_at hj]
      unfold vf_upd
      by_cases a : j = tt % 16
      · rw [if_pos a, if_pos a, h2]
      · rw [if_neg a, if_neg a]
    · show cutP (cIn v 0 = 3) (cNn v) (fun a c => dV (P a c)) = cutP (cIn v 0 = 3) (hmN (vcF v)) _
      simp only [hn]
      refine cutP_eq fun _ a c ha hc => ?_
      rw [h6 a c ha hc, hPc a c ha hc]
      by_cases z : sLoud (cIn v 2) (cNn v) xi (dV mi) ∨ 0 < cIn v 4
      · rw [if_pos z, if_pos (hH.mpr z)]
      · rw [if_neg z, if_neg (fun x => z (hH.mp x))]
        unfold gP
        by_cases b : gRes (cNn v) (fDiv (fI (cIn v 1)) k1000) (fun i j => dV (cPm v i j)) xi
        · rw [if_pos b, if_pos (hR.mpr b)]
        · rw [if_neg b, if_neg (fun x => b (hR.mp x)), gQ_congr hPc ha hc]
  · show 0 ≤ lg
    rw [h4]
    split
    · exact v6
    · split
      · rename_i b; exact dec_lf b
      · exact v5
  · intro j hj
    exact h3n j hj (v7 j hj)
theorem perm_h {a b c d e f g x : Nat × va_E} {s : va_W} : ((a :: b :: c :: d :: e :: f :: g :: s) ++ [x]).Perm (([a, b, c, d, e, f, g, x] ++ s) ++ []) := by
  rw [List.append_nil]
  show (a :: b :: c :: d :: e :: f :: g :: (s ++ [x])).Perm (a :: b :: c :: d :: e :: f :: g :: ([x] ++ s))
  exact List.Perm.cons _ (List.Perm.cons _ (List.Perm.cons _ (List.Perm.cons _ (List.Perm.cons _ (List.Perm.cons _ (List.Perm.cons _ List.perm_append_comm))))))
theorem sq_range {kd th : Int32} (h : stpB kd th) (hk : kd = 3) : 500 ≤ th ∧ th ≤ 1000 := h.elim (fun z => z.2) (fun z => absurd hk z.1)
/-- hear, of every filter -/
theorem c_hearG (l : Launch) : HearC l hearG := by
  intro G q sz v T ax xi mi hv hT hx
  by_cases hk : cIn v 0 = 3
  · obtain ⟨tt, ht, hle⟩ := hv.2.2.2.1
    have h0 := m_X0_hearR l G q sz (cAd v 0) (cAd v 1) (cAd v 2) ax (cNn v) tt (cIn v 0) (cIn v 1) (cIn v 2) (cIn v 3) (cIn v 4) (cIn v 6) (cIn v 7) (cDb v 0) (cDb v 1) (cAr v 0) (cAr v 1) xi mi (cAd v 3) (cAd v 4) (cAd v 5) (cAd v 6) (cRw v) (cPm v) (cAr v 2) (cAr v 3) (hv.2.2.1 hk) (by omega) (sq_range hv.2.2.2.2.2.2.2 hk)
    have e0 : fW q v = (cAd v 0, .inr (0, [.int (cIn v 0), .ref (cAd v 1), .ref (cAd v 2), .ref (cAd v 3), .int (cIn v 1), .int (cIn v 2), .int (cIn v 3), .int (cIn v 4), .double (cDb v 0), .double (cDb v 1), .int (nI tt), .int (cIn v 6), .int (cIn v 7)])) :: (cAd v 1, aD q (cNn v) (cAr v 0)) :: (cAd v 2, aD q 16 (cAr v 1)) :: (cAd v 3, .inr (2, [.int (nI (cNn v)), .ref (cAd v 4), .ref (cAd v 5), .ref (cAd v 6)])) :: (cAd v 4, aA q (cNn v) (fun j => if j < cNn v then some (cRw v j) else none)) :: (cAd v 5, aD q (cNn v) (cAr v 2)) :: (cAd v 6, aD q (cNn v) (cAr v 3)) :: rowsW q (cNn v) (cNn v) (cRw v) (cPm v) := by
      unfold fW fObj
      rw [show sqX q v = _ from if_pos hk, sqV_r hk, ht]
      rfl
    have hp := perm_h (a := (cAd v 0, .inr (0, [.int (cIn v 0), .ref (cAd v 1), .ref (cAd v 2), .ref (cAd v 3), .int (cIn v 1), .int (cIn v 2), .int (cIn v 3), .int (cIn v 4), .double (cDb v 0), .double (cDb v 1), .int (nI tt), .int (cIn v 6), .int (cIn v 7)]))) (b := (cAd v 1, aD q (cNn v) (cAr v 0))) (c := (cAd v 2, aD q 16 (cAr v 1))) (d := (cAd v 3, .inr (2, [.int (nI (cNn v)), .ref (cAd v 4), .ref (cAd v 5), .ref (cAd v 6)]))) (e := (cAd v 4, aA q (cNn v) (fun j => if j < cNn v then some (cRw v j) else none))) (f := (cAd v 5, aD q (cNn v) (cAr v 2))) (g := (cAd v 6, aD q (cNn v) (cAr v 3))) (x := (ax, aD q 8 (fun k => FP.i2d (xi k)))) (s := rowsW q (cNn v) (cNn v) (cRw v) (cPm v))
    rw [← e0] at hp
    refine (MetD.frV hp h0).cons (fun _ _ h => h) (fun a U d o t hP hQ => ?_) (fun _ h => h)
    obtain ⟨⟨u, h1, h2, h3⟩, h4⟩ := hQ
    obtain ⟨p1, p2, p3, p4, p5, p6, p7, p8⟩ := h2
    have h5 := hear3_ok (g := u.2.2.2.2.2.2.1) (k := u.2.2.2.2.2.2.2.1) hk hx hv ht hle hT p1 p2 p3 p4 p5 p6 p7 p8
    refine ⟨⟨hear3U v tt u.1 u.2.1 u.2.2.1 u.2.2.2.1 u.2.2.2.2.1 u.2.2.2.2.2.1 u.2.2.2.2.2.2.1 u.2.2.2.2.2.2.2.1 u.2.2.2.2.2.2.2.2, h1, ⟨⟨rfl, rfl, rfl⟩, h5⟩, ?_⟩, h4⟩
    have e3 : fW q (hear3U v tt u.1 u.2.1 u.2.2.1 u.2.2.2.1 u.2.2.2.2.1 u.2.2.2.2.2.1 u.2.2.2.2.2.2.1 u.2.2.2.2.2.2.2.1 u.2.2.2.2.2.2.2.2) = (cAd v 0, .inr (0, [.int (cIn v 0), .ref (cAd v 1), .ref (cAd v 2), .ref (cAd v 3), .int (cIn v 1), .int (cIn v 2), .int (cIn v 3), .int u.2.2.2.1, .double u.1, .double u.2.1, .int (nI (tt + 1)), .int u.2.2.2.2.1, .int u.2.2.2.2.2.1])) :: (cAd v 1, aD q (cNn v) u.2.2.1) :: (cAd v 2, aD q 16 (vf_upd (cAr v 1) (tt % 16) u.2.1)) :: (cAd v 3, .inr (2, [.int (nI (cNn v)), .ref (cAd v 4), .ref (cAd v 5), .ref (cAd v 6)])) :: (cAd v 4, aA q (cNn v) (fun j => if j < cNn v then some (cRw v j) else none)) :: (cAd v 5, aD q (cNn v) u.2.2.2.2.2.2.1) :: (cAd v 6, aD q (cNn v) u.2.2.2.2.2.2.2.1) :: rowsW q (cNn v) (cNn v) (cRw v) u.2.2.2.2.2.2.2.2 := by
      unfold fW fObj
      rw [show sqX q (hear3U v tt u.1 u.2.1 u.2.2.1 u.2.2.2.1 u.2.2.2.2.1 u.2.2.2.2.2.1 u.2.2.2.2.2.2.1 u.2.2.2.2.2.2.2.1 u.2.2.2.2.2.2.2.2) = _ from if_pos hk, sqV_r (v := hear3U v tt u.1 u.2.1 u.2.2.1 u.2.2.2.1 u.2.2.2.2.1 u.2.2.2.2.2.1 u.2.2.2.2.2.2.1 u.2.2.2.2.2.2.2.1 u.2.2.2.2.2.2.2.2) hk]
      rfl
    dsimp only
    rw [e3]
    exact endA_perm h3 perm_h.symm
  · refine (c_hearN l G q sz v T ax xi mi hk hv hT hx).cons (fun _ _ h => h) (fun a U d o t hP hQ => ?_) (fun _ h => h)
    obtain ⟨⟨u, h1, ⟨h2, h5, h6⟩, h3⟩, h4⟩ := hQ
    exact ⟨⟨u, h1, ⟨h2, h5.trans (show hearM xi (dV mi) (vcF v) = hearG xi (dV mi) (vcF v) from (if_neg hk).symm), h6⟩, h3⟩, h4⟩
