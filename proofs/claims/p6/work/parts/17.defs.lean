/-! ===== a filter as a value: ((kind, taps, step, watch, tail), (left, had, held, resets), (output, error), weights, errors, square) ===== -/
abbrev FV : Type := (Int32 × Int32 × Int32 × Int32 × Int32) × (Int32 × Int32 × Int32 × Int32) × (Dt × Dt) × (Nat → Dt) × (Nat → Dt) × (Nat → Nat → Dt)
abbrev tn (t : Int32) : Nat := t.toNatClampNeg
def cutN (n : Nat) (f : Nat → Dt) : Nat → Dt := fun j => if j < n then f j else dV 0
def cutP (k : Prop) [Decidable k] (n : Nat) (f : Nat → Nat → Dt) : Nat → Nat → Dt := fun a c => if k ∧ a < n ∧ c < n then f a c else dV 0
theorem cutN_eq {n : Nat} {f g : Nat → Dt} (h : ∀ j, j < n → f j = g j) : cutN n f = cutN n g := by
  funext j
  unfold cutN
  by_cases e : j < n
  · rw [if_pos e, if_pos e, h j e]
  · rw [if_neg e, if_neg e]
theorem cutP_eq {k : Prop} [Decidable k] {n : Nat} {f g : Nat → Nat → Dt} (h : k → ∀ a c, a < n → c < n → f a c = g a c) : cutP k n f = cutP k n g := by
  funext a c
  unfold cutP
  by_cases e : k ∧ a < n ∧ c < n
  · rw [if_pos e, if_pos e, h e.1 a c e.2.1 e.2.2]
  · rw [if_neg e, if_neg e]
theorem cutN_at {n j : Nat} {f : Nat → Dt} (h : j < n) : cutN n f j = f j := if_pos h
theorem cutP_at {k : Prop} [Decidable k] {n a c : Nat} {f : Nat → Nat → Dt} (h : k) (ha : a < n) (hc : c < n) : cutP k n f a c = f a c := if_pos ⟨h, ha, hc⟩
theorem sOut_congr {n : Nat} {w v : Nat → Dt} {xi : Nat → Int32} (h : ∀ j, j < n → w j = v j) : sOut n w xi = sOut n v xi := smN_congr fun i hi => by rw [h i hi]
theorem sM_congr {n : Nat} {st : Dt} {P Q : Nat → Nat → Dt} {xi : Nat → Int32} (h : ∀ a c, a < n → c < n → P a c = Q a c) : sM n st P xi = sM n st Q xi := smN_congr fun i hi => by rw [sOut_congr (fun j hj => h i j hi hj)]
theorem rK_congr {n : Nat} {mu : Dt} {P Q : Nat → Nat → Dt} {xi : Nat → Int32} (h : ∀ a c, a < n → c < n → P a c = Q a c) {i : Nat} (hi : i < n) : rK n mu P xi i = rK n mu Q xi i := by
  unfold rK
  rw [sOut_congr (fun j hj => h i j hi hj), sM_congr h]
theorem rQ_congr {n : Nat} {mu : Dt} {P Q : Nat → Nat → Dt} {xi : Nat → Int32} (h : ∀ a c, a < n → c < n → P a c = Q a c) {i j : Nat} (hi : i < n) (hj : j < n) : rQ n mu P xi i j = rQ n mu Q xi i j := by
  unfold rQ
  rw [rK_congr h hi, h i j hi hj, sOut_congr (fun k hk => h j k hj hk)]
theorem rOv_congr {f g : Nat → Dt} {n : Nat} (h : ∀ i, i < n → f i = g i) : rOv f n = rOv g n := by
  induction n with
  | zero => rfl
  | succ n ih =>
    show (rOv f n || decide (rBad (f n))) = (rOv g n || decide (rBad (g n)))
    rw [ih (fun i hi => h i (by omega)), h n (by omega)]
theorem rRes_congr {n : Nat} {mu : Dt} {P Q : Nat → Nat → Dt} {xi : Nat → Int32} (h : ∀ a c, a < n → c < n → P a c = Q a c) : rRes n mu P xi = rRes n mu Q xi := by
  unfold rRes rLow
  rw [sM_congr h, rOv_congr (fun i hi => rQ_congr h hi hi)]
theorem rP_congr {n : Nat} {mu : Dt} {P Q : Nat → Nat → Dt} {xi : Nat → Int32} (h : ∀ a c, a < n → c < n → P a c = Q a c) {i j : Nat} (hi : i < n) (hj : j < n) : rP n mu P xi i j = rP n mu Q xi i j := by
  unfold rP
  rw [rRes_congr h, rQ_congr h hi hj]
theorem rW_congr {n : Nat} {mu er w : Dt} {P Q : Nat → Nat → Dt} {xi : Nat → Int32} (h : ∀ a c, a < n → c < n → P a c = Q a c) {j : Nat} (hj : j < n) : rW n mu er P xi w j = rW n mu er Q xi w j := by
  unfold rW rLow
  rw [sM_congr h, rK_congr h hj]
/-- the reference's hear, on values -/
def hmN (v : FV) : Nat := tn v.1.2.1
def hmLoud (xi : Nat → Int32) (mi : Dt) (v : FV) : Prop := sLoudM v.1.2.2.2.1 (hmN v) xi mi
def hmOut (xi : Nat → Int32) (v : FV) : Dt := sOut (hmN v) v.2.2.2.1 xi
def hmErr (xi : Nat → Int32) (mi : Dt) (v : FV) : Dt := fSub mi (hmOut xi v)
def hmMu (v : FV) : Dt := fDiv (fI v.1.2.2.1) k1000
def hmHold (xi : Nat → Int32) (mi : Dt) (v : FV) : Prop := sLoudM v.1.2.2.2.1 (hmN v) xi mi ∨ 0 < v.2.1.1
abbrev hmHold' (xi : Nat → Int32) (mi : Dt) (v : FV) : Prop := sLoudM v.1.2.2.2.1 (hmN v) xi mi ∨ 0 < v.2.1.1
abbrev hmLearnsP (xi : Nat → Int32) (mi : Dt) (v : FV) : Prop := ¬ hmHold' xi mi v ∧ v.1.1 = 3
def hearM (xi : Nat → Int32) (mi : Dt) (v : FV) : FV :=
  (v.1,
   (if sLoudM v.1.2.2.2.1 (hmN v) xi mi then v.1.2.2.2.2 else if 0 < v.2.1.1 then v.2.1.1 - 1 else 0,
    v.2.1.2.1 + 1,
    if hmHold' xi mi v then v.2.1.2.2.1 + 1 else v.2.1.2.2.1,
    if hmLearnsP xi mi v ∧ rRes (hmN v) (hmMu v) v.2.2.2.2.2 xi = true then v.2.1.2.2.2 + 1 else v.2.1.2.2.2),
   (hmOut xi v, hmErr xi mi v),
   cutN (hmN v) (fun j => if hmHold' xi mi v then v.2.2.2.1 j else if v.1.1 = 3 then rW (hmN v) (hmMu v) (hmErr xi mi v) v.2.2.2.2.2 xi (v.2.2.2.1 j) j else sUp (v.2.2.2.1 j) (sLesM v.1.1 v.1.2.2.1 (hmErr xi mi v) (fI (xi j)) (sNorm (hmN v) xi))),
   cutN 16 (fun j => if j = tn v.2.1.2.1 % 16 then hmErr xi mi v else v.2.2.2.2.1 j),
   cutP (v.1.1 = 3) (hmN v) (fun a c => if hmLearnsP xi mi v then rP (hmN v) (hmMu v) v.2.2.2.2.2 xi a c else v.2.2.2.2.2 a c))
/-- a filter of the reference: I: kind taps step watch tail left had held resets; D: weight output error errors square -/
def mF (I : Nat → Nat → Int32) (D : Nat → Nat → UInt64) (f : Nat) : FV :=
  ((I 0 f, I 1 f, I 2 f, I 3 f, I 4 f), (I 5 f, I 6 f, I 7 f, I 8 f), (dV (D 1 f), dV (D 2 f)),
   cutN (tn (I 1 f)) (fun j => dV (D 0 (8 * f + j))), cutN 16 (fun j => dV (D 3 (16 * f + j))), cutP (I 0 f = 3) (tn (I 1 f)) (fun a c => dV (D 4 (16 * f + 4 * a + c))))
def mkI (a0 a1 a2 a3 a4 a5 a6 a7 a8 : Nat → Int32) : Nat → Nat → Int32 := fun k => match k with
  | 0 => a0 | 1 => a1 | 2 => a2 | 3 => a3 | 4 => a4 | 5 => a5 | 6 => a6 | 7 => a7 | _ => a8
def mkD (a0 a1 a2 a3 a4 : Nat → UInt64) : Nat → Nat → UInt64 := fun k => match k with
  | 0 => a0 | 1 => a1 | 2 => a2 | 3 => a3 | _ => a4
/-- a slot is as it was -/
def sameS (I J : Nat → Nat → Int32) (D E : Nat → Nat → UInt64) (g : Nat) : Prop :=
  (∀ k, k < 9 → J k g = I k g) ∧ E 1 g = D 1 g ∧ E 2 g = D 2 g ∧ (∀ j, j < 8 → E 0 (8 * g + j) = D 0 (8 * g + j)) ∧ (∀ j, j < 16 → E 3 (16 * g + j) = D 3 (16 * g + j)) ∧ (∀ j, j < 16 → E 4 (16 * g + j) = D 4 (16 * g + j))
theorem sameS.refl (I : Nat → Nat → Int32) (D : Nat → Nat → UInt64) (g : Nat) : sameS I I D D g := ⟨fun _ _ => rfl, rfl, rfl, fun _ _ => rfl, fun _ _ => rfl, fun _ _ => rfl⟩
theorem sameS.trans {I J K : Nat → Nat → Int32} {D E F : Nat → Nat → UInt64} {g : Nat} (h : sameS I J D E g) (h2 : sameS J K E F g) : sameS I K D F g :=
  ⟨fun k hk => (h2.1 k hk).trans (h.1 k hk), h2.2.1.trans h.2.1, h2.2.2.1.trans h.2.2.1, fun j hj => (h2.2.2.2.1 j hj).trans (h.2.2.2.1 j hj), fun j hj => (h2.2.2.2.2.1 j hj).trans (h.2.2.2.2.1 j hj), fun j hj => (h2.2.2.2.2.2 j hj).trans (h.2.2.2.2.2 j hj)⟩
theorem sameS_mF {I J : Nat → Nat → Int32} {D E : Nat → Nat → UInt64} {g n : Nat} (h : sameS I J D E g) (hn : I 1 g = nI n) (h8 : n ≤ 8) (h4 : I 0 g = 3 → n ≤ 4) : mF J E g = mF I D g := by
  unfold mF
  rw [h.1 0 (by decide), h.1 1 (by decide), h.1 2 (by decide), h.1 3 (by decide), h.1 4 (by decide), h.1 5 (by decide), h.1 6 (by decide), h.1 7 (by decide), h.1 8 (by decide), h.2.1, h.2.2.1, hn, show tn (nI n) = n from nI_clamp (by omega)]
  rw [cutN_eq (f := fun j => dV (E 0 (8 * g + j))) (g := fun j => dV (D 0 (8 * g + j))) (fun j hj => by rw [h.2.2.2.1 j (by omega)]),
    cutN_eq (f := fun j => dV (E 3 (16 * g + j))) (g := fun j => dV (D 3 (16 * g + j))) (fun j hj => by rw [h.2.2.2.2.1 j hj]),
    cutP_eq (f := fun a c => dV (E 4 (16 * g + 4 * a + c))) (g := fun a c => dV (D 4 (16 * g + 4 * a + c))) (fun k a c ha hc => by have := h4 k; rw [Nat.add_assoc, h.2.2.2.2.2 (4 * a + c) (by omega)])]
theorem tn_nI {n : Nat} (h : n < 2147483648) : tn (nI n) = n := nI_clamp h
/-- what hear leaves at its slot -/
theorem hear_FV {I : Nat → Nat → Int32} {D : Nat → Nat → UInt64} {xi : Nat → Int32} {mi : Dt} {fx n tt : Nat} {o e : UInt64} {W S : Nat → UInt64} {R C : Nat → Int32} {lg : Int32}
    (hn : n ≤ 8) (hn4 : I 0 fx = 3 → n ≤ 4) (hT : I 1 fx = nI n) (hH : I 6 fx = nI tt) (htt : tt < 2000)
    (ho : dV o = sOut n (fun k => dV (D 0 (8 * fx + k))) xi) (he : dV e = fSub mi (sOut n (fun k => dV (D 0 (8 * fx + k))) xi))
    (hW : ∀ j, j < n → dV (W (8 * fx + j)) = if sLoudM (I 3 fx) n xi mi ∨ 0 < I 5 fx then dV (D 0 (8 * fx + j)) else if I 0 fx = 3 then rW n (fDiv (fI (I 2 fx)) k1000) (fSub mi (sOut n (fun k => dV (D 0 (8 * fx + k))) xi)) (pV (D 4) fx) xi (dV (D 0 (8 * fx + j))) j else sUp (dV (D 0 (8 * fx + j))) (sLesM (I 0 fx) (I 2 fx) (fSub mi (sOut n (fun k => dV (D 0 (8 * fx + k))) xi)) (fI (xi j)) (sNorm n xi)))
    (hS : ∀ a c, a < n → c < n → dV (S (16 * fx + 4 * a + c)) = if (sLoudM (I 3 fx) n xi mi ∨ 0 < I 5 fx) ∨ ¬ I 0 fx = 3 then dV (D 4 (16 * fx + 4 * a + c)) else rP n (fDiv (fI (I 2 fx)) k1000) (pV (D 4) fx) xi a c)
    (hR : R = if ¬ (sLoudM (I 3 fx) n xi mi ∨ 0 < I 5 fx) ∧ I 0 fx = 3 ∧ rRes n (fDiv (fI (I 2 fx)) k1000) (pV (D 4) fx) xi = true then vf_upd (I 8) fx (I 8 fx + 1) else I 8)
    (hL : lg = if sLoudM (I 3 fx) n xi mi then I 4 fx else if 0 < I 5 fx then I 5 fx - 1 else 0)
    (hC : C = if sLoudM (I 3 fx) n xi mi ∨ 0 < I 5 fx then vf_upd (I 7) fx (I 7 fx + 1) else I 7) :
    mF (mkI (I 0) (I 1) (I 2) (I 3) (I 4) (vf_upd (I 5) fx lg) (vf_upd (I 6) fx (nI (tt + 1))) C R) (mkD W (vf_upd (D 1) fx o) (vf_upd (D 2) fx e) (vf_upd (D 3) (16 * fx + tt % 16) e) S) fx = hearM xi mi (mF I D fx) := by
  have hnn : n = tn (I 1 fx) := by rw [hT]; exact (tn_nI (by omega)).symm
  subst hnn
  have hWc : ∀ j, j < tn (I 1 fx) → (mF I D fx).2.2.2.1 j = dV (D 0 (8 * fx + j)) := fun j hj => (cutN_at hj : cutN (tn (I 1 fx)) (fun j => dV (D 0 (8 * fx + j))) j = _)
  have hOut : hmOut xi (mF I D fx) = sOut (tn (I 1 fx)) (fun k => dV (D 0 (8 * fx + k))) xi := sOut_congr hWc
  have hErr : hmErr xi mi (mF I D fx) = fSub mi (sOut (tn (I 1 fx)) (fun k => dV (D 0 (8 * fx + k))) xi) := by unfold hmErr; rw [hOut]
  have hP : I 0 fx = 3 → ∀ a c, a < tn (I 1 fx) → c < tn (I 1 fx) → (mF I D fx).2.2.2.2.2 a c = pV (D 4) fx a c := fun k a c ha hc => (cutP_at k ha hc : cutP (I 0 fx = 3) (tn (I 1 fx)) (fun a c => dV (D 4 (16 * fx + 4 * a + c))) a c = _)
  have hMu : hmMu (mF I D fx) = fDiv (fI (I 2 fx)) k1000 := rfl
  unfold hearM
  rw [hOut, hErr, hMu]
  refine Prod.ext rfl (Prod.ext ?_ (Prod.ext ?_ (Prod.ext ?_ (Prod.ext ?_ ?_))))
  · show ((vf_upd (I 5) fx lg) fx, (vf_upd (I 6) fx (nI (tt + 1))) fx, C fx, R fx) = _
    rw [vf_self, vf_self, hL, hC, hR]
    refine Prod.ext rfl (Prod.ext ?_ (Prod.ext ?_ ?_))
    · show nI (tt + 1) = I 6 fx + 1
      rw [hH]
      exact nI_succ tt
    · show (if sLoudM (I 3 fx) (tn (I 1 fx)) xi mi ∨ 0 < I 5 fx then vf_upd (I 7) fx (I 7 fx + 1) else I 7) fx = if sLoudM (I 3 fx) (tn (I 1 fx)) xi mi ∨ 0 < I 5 fx then I 7 fx + 1 else I 7 fx
      by_cases h : sLoudM (I 3 fx) (tn (I 1 fx)) xi mi ∨ 0 < I 5 fx
      · rw [if_pos h, if_pos h, vf_self]
      · rw [if_neg h, if_neg h]
    · show (if ¬ (sLoudM (I 3 fx) (tn (I 1 fx)) xi mi ∨ 0 < I 5 fx) ∧ I 0 fx = 3 ∧ rRes (tn (I 1 fx)) (fDiv (fI (I 2 fx)) k1000) (pV (D 4) fx) xi = true then vf_upd (I 8) fx (I 8 fx + 1) else I 8) fx = if (¬ (sLoudM (I 3 fx) (tn (I 1 fx)) xi mi ∨ 0 < I 5 fx) ∧ I 0 fx = 3) ∧ rRes (tn (I 1 fx)) (fDiv (fI (I 2 fx)) k1000) (mF I D fx).2.2.2.2.2 xi = true then I 8 fx + 1 else I 8 fx
      by_cases h : ¬ (sLoudM (I 3 fx) (tn (I 1 fx)) xi mi ∨ 0 < I 5 fx) ∧ I 0 fx = 3
      · rw [rRes_congr (hP h.2)]
        by_cases h2 : rRes (tn (I 1 fx)) (fDiv (fI (I 2 fx)) k1000) (pV (D 4) fx) xi = true
        · rw [if_pos ⟨h.1, h.2, h2⟩, if_pos ⟨h, h2⟩, vf_self]
        · rw [if_neg (fun q => h2 q.2.2), if_neg (fun q => h2 q.2)]
      · rw [if_neg (fun q => h ⟨q.1, q.2.1⟩), if_neg (fun q => h q.1)]
  · show (dV ((vf_upd (D 1) fx o) fx), dV ((vf_upd (D 2) fx e) fx)) = _
    rw [vf_self, vf_self, ho, he]
  · show cutN (tn (I 1 fx)) (fun j => dV (W (8 * fx + j))) = cutN (tn (I 1 fx)) _
    refine cutN_eq fun j hj => ?_
    rw [hW j hj, hWc j hj]
    show _ = if sLoudM (I 3 fx) (tn (I 1 fx)) xi mi ∨ 0 < I 5 fx then _ else if I 0 fx = 3 then _ else _
    by_cases h : sLoudM (I 3 fx) (tn (I 1 fx)) xi mi ∨ 0 < I 5 fx
    · rw [if_pos h, if_pos h]
    · rw [if_neg h, if_neg h]
      by_cases h3 : I 0 fx = 3
      · rw [if_pos h3, if_pos h3]
        exact (rW_congr (hP h3) hj).symm
      · rw [if_neg h3, if_neg h3]
        rfl
  · show cutN 16 (fun j => dV ((vf_upd (D 3) (16 * fx + tt % 16) e) (16 * fx + j))) = _
    refine cutN_eq fun j hj => ?_
    show dV ((vf_upd (D 3) (16 * fx + tt % 16) e) (16 * fx + j)) = if j = tn (I 6 fx) % 16 then _ else cutN 16 (fun j => dV (D 3 (16 * fx + j))) j
    rw [hH, tn_nI (by omega), cutN_at hj]
    unfold vf_upd
    by_cases h : j = tt % 16
    · rw [if_pos (by omega), if_pos h, he]
    · rw [if_neg (by omega), if_neg h]
  · show cutP (I 0 fx = 3) (tn (I 1 fx)) (fun a c => dV (S (16 * fx + 4 * a + c))) = cutP (I 0 fx = 3) (tn (I 1 fx)) _
    refine cutP_eq fun k a c ha hc => ?_
    show dV (S (16 * fx + 4 * a + c)) = if ¬ (sLoudM (I 3 fx) (tn (I 1 fx)) xi mi ∨ 0 < I 5 fx) ∧ I 0 fx = 3 then _ else (mF I D fx).2.2.2.2.2 a c
    rw [hS a c ha hc, hP k a c ha hc]
    by_cases h : sLoudM (I 3 fx) (tn (I 1 fx)) xi mi ∨ 0 < I 5 fx
    · rw [if_pos (Or.inl h), if_neg (fun q => q.1 h)]
    · rw [if_neg (fun q => q.elim h (fun y => y k)), if_pos ⟨h, k⟩]
      exact (rP_congr (hP k) ha hc).symm
/-- .. and at the others -/
theorem hear_same {I : Nat → Nat → Int32} {D : Nat → Nat → UInt64} {fx g n tt : Nat} {o e : UInt64} {W S : Nat → UInt64} {R C : Nat → Int32} {lg : Int32} {p1 p2 : Prop} [Decidable p1] [Decidable p2] {x1 x2 : Int32}
    (hg : g ≠ fx) (hn : n ≤ 8) (hW : ∀ i, (i < 8 * fx ∨ 8 * fx + n ≤ i) → W i = D 0 i) (hS : ∀ i, (i < 16 * fx ∨ 16 * fx + 16 ≤ i) → S i = D 4 i)
    (hR : R = if p1 then vf_upd (I 8) fx x1 else I 8) (hC : C = if p2 then vf_upd (I 7) fx x2 else I 7) :
    sameS I (mkI (I 0) (I 1) (I 2) (I 3) (I 4) (vf_upd (I 5) fx lg) (vf_upd (I 6) fx (nI (tt + 1))) C R) D (mkD W (vf_upd (D 1) fx o) (vf_upd (D 2) fx e) (vf_upd (D 3) (16 * fx + tt % 16) e) S) g := by
  have ne : ∀ {α : Type} (f : Nat → α) (v : α), vf_upd f fx v g = f g := fun f v => if_neg hg
  refine ⟨fun k hk => ?_, ne _ _, ne _ _, fun j hj => hW _ (by omega), fun j hj => ?_, fun j hj => hS _ (by omega)⟩
  · match k, hk with
    | 0, _ => rfl
    | 1, _ => rfl
    | 2, _ => rfl
    | 3, _ => rfl
    | 4, _ => rfl
    | 5, _ => exact ne _ _
    | 6, _ => exact ne _ _
    | 7, _ =>
      show C g = I 7 g
      rw [hC]
      by_cases h : p2
      · rw [if_pos h]; exact ne _ _
      · rw [if_neg h]
    | 8, _ =>
      show R g = I 8 g
      rw [hR]
      by_cases h : p1
      · rw [if_pos h]; exact ne _ _
      · rw [if_neg h]
  · show vf_upd (D 3) (16 * fx + tt % 16) e (16 * g + j) = D 3 (16 * g + j)
    unfold vf_upd
    rw [if_neg (by omega)]
