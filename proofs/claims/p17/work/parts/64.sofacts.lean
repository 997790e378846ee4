/-! ===== what isSo asks, of a good bench ===== -/
theorem fO_lt0 {x : UInt64} (h : fn (dV x) ∧ 0 ≤ rv (dV x)) : ¬ Op.cmpValue (FP.dcmp x 0) CmpOp.l < 0 := by
  rw [cl_lt, dcmp_fO]
  intro z
  rcases z with z | z
  · have := (fO_val h.1 c_zero.1).1.mp z
    rw [c_zero.2] at this
    grind
  · have h1 := (fO_val h.1 c_zero.1)
    rcases (show rv (dV x) < rv (dV 0) ∨ rv (dV 0) < rv (dV x) ∨ rv (dV x) = rv (dV 0) by grind) with k | k | k
    · rw [h1.1.mpr k] at z; cases z
    · rw [h1.2.1.mpr k] at z; cases z
    · rw [h1.2.2.mpr k] at z; cases z
theorem fO_eqs {x y : UInt64} (h : dV x = dV y) (hf : fn (dV y)) : Op.cmpValue (FP.dcmp x y) CmpOp.l = 0 := by
  rw [cl_eq, dcmp_fO, h]
  exact (fO_val hf hf).2.2.mpr rfl
theorem fO_ngt {x y : UInt64} (hx : fn (dV x)) (hy : fn (dV y)) (h : rv (dV x) ≤ rv (dV y)) : ¬ 0 < Op.cmpValue (FP.dcmp x y) CmpOp.g := by
  rw [cg_gt, dcmp_fO]
  intro z
  have h1 := fO_val hx hy
  rcases z with z | z
  · have := h1.2.1.mp z
    grind
  · rcases (show rv (dV x) < rv (dV y) ∨ rv (dV y) < rv (dV x) ∨ rv (dV x) = rv (dV y) by grind) with k | k | k
    · rw [h1.1.mpr k] at z; cases z
    · rw [h1.2.1.mpr k] at z; cases z
    · rw [h1.2.2.mpr k] at z; cases z
theorem fO_nlt {x y : UInt64} (hx : fn (dV x)) (hy : fn (dV y)) (h : rv (dV y) ≤ rv (dV x)) : ¬ Op.cmpValue (FP.dcmp x y) CmpOp.l < 0 := by
  rw [cl_lt, dcmp_fO]
  intro z
  have h1 := fO_val hx hy
  rcases z with z | z
  · have := h1.1.mp z
    grind
  · rcases (show rv (dV x) < rv (dV y) ∨ rv (dV y) < rv (dV x) ∨ rv (dV x) = rv (dV y) by grind) with k | k | k
    · rw [h1.1.mpr k] at z; cases z
    · rw [h1.2.1.mpr k] at z; cases z
    · rw [h1.2.2.mpr k] at z; cases z
section SOF
variable {as : List (List Nat)} {ws : List (Nat → Int32)} {V : BV}
theorem so_F (h : GB as ws V) {g : Nat} (hg : g < vNf V) : GF ws (vMi V) (vF V g) := h.2.2.2.2.2.2.2.2.2.2.2 g hg
theorem so_nf (h : GB as ws V) : vNf V ≤ 6 := h.2.2.2.2.2.2.1
theorem so_mi (h : GB as ws V) : fn (vMi V) := h.2.2.2.2.2.2.2.2.2.2.1.1
theorem so_len (h : GB as ws V) : ws.length ≤ 2000 := by rw [h.2.2.2.2.1]; exact h.2.1
theorem so_nlt {a b : Nat} (h : a ≤ b) (hb : b < 2147483648) : ¬ nI b < nI a := Int32.not_lt.mpr (nI_le h hb)
theorem so_c1 (h : GB as ws V) {g : Nat} (hg : g < vNf V) : ¬ countV 0 (vF V g) < countV 1 (vF V g) := by
  obtain ⟨-, -, -, -, ⟨tt, hh, rr, e1, e2, e3, l1, l2, l3⟩, -⟩ := so_F h hg
  have := so_len h
  show ¬ (vF V g).2.1.2.1 < (vF V g).2.1.2.2.1
  rw [e1, e2]
  exact so_nlt l1 (by omega)
theorem so_c2 (h : GB as ws V) {g : Nat} (hg : g < vNf V) : ¬ countV 0 (vF V g) < countV 2 (vF V g) := by
  obtain ⟨-, -, -, -, ⟨tt, hh, rr, e1, e2, e3, l1, l2, l3⟩, -⟩ := so_F h hg
  have := so_len h
  show ¬ (vF V g).2.1.2.1 < (vF V g).2.1.2.2.2
  rw [e1, e3]
  exact so_nlt l2 (by omega)
theorem so_c3 (h : GB as ws V) {g : Nat} (hg : g < vNf V) : ¬ countV 3 (vF V g) < 0 ∧ ¬ 20 < countV 3 (vF V g) := by
  have h1 := (so_F h hg).2.2.1
  exact ⟨Int32.not_lt.mpr h1.1, Int32.not_lt.mpr h1.2⟩
theorem so_c0 (h : GB as ws V) {g : Nat} (hg : g < vNf V) : ∃ tt, tt ≤ 2000 ∧ countV 0 (vF V g) = nI tt := by
  obtain ⟨-, -, -, -, ⟨tt, hh, rr, e1, e2, e3, l1, l2, l3⟩, -⟩ := so_F h hg
  have := so_len h
  exact ⟨tt, by omega, e1⟩
theorem so_o2 (h : GB as ws V) {g : Nat} (hg : g < vNf V) : fn (ofV V.1 2 (vF V g)) ∧ 0 ≤ rv (ofV V.1 2 (vF V g)) := by
  obtain ⟨-, -, -, ⟨n, e1, e2, e3, -, e5⟩, -⟩ := so_F h hg
  show fn (sOff (tn (vF V g).1.2.1) (vF V g).2.2.2.1 V.1) ∧ _
  have hn : tn (vF V g).1.2.1 = n := by rw [e1]; exact tn_nI (by omega)
  rw [show ofV V.1 2 (vF V g) = sOff (tn (vF V g).1.2.1) (vF V g).2.2.2.1 V.1 from rfl, hn]
  exact off_nn e3 h.2.2.2.2.2.2.2.1 e5
theorem so_o3 (h : GB as ws V) {g : Nat} (hg : g < vNf V) : fn (ofV V.1 3 (vF V g)) ∧ 0 ≤ rv (ofV V.1 3 (vF V g)) := pow_nn (so_F h hg).2.2.2.2.2.2.2.1
theorem so_z (h : GB as ws V) {g : Nat} (hg : g < vNf V) (h0 : countV 0 (vF V g) = 0) : ofV V.1 0 (vF V g) = dV 0 ∧ ofV V.1 1 (vF V g) = dV 0 := by
  rcases (so_F h hg).2.2.2.2.2.2.2.2 with z | z
  · exact z.2
  · exact absurd h0 z.1
theorem so_e (h : GB as ws V) {g : Nat} (hg : g < vNf V) (h0 : ¬ countV 0 (vF V g) = 0) : ofV V.1 1 (vF V g) = fSub (vMi V) (ofV V.1 0 (vF V g)) ∧ fn (ofV V.1 1 (vF V g)) := by
  have hf := so_F h hg
  rcases hf.2.2.2.2.2.2.2.2 with z | z
  · exact absurd z.1 h0
  · exact ⟨z.2, hf.2.2.2.2.2.2.1.1⟩
theorem so_w (h : GB as ws V) {g : Nat} (hg : g < vNf V) {j : Nat} (hj : j < tn (vF V g).1.2.1) : fb 1000000000 ((vF V g).2.2.2.1 j) := by
  obtain ⟨-, -, -, ⟨n, e1, e2, e3, -, e5⟩, -⟩ := so_F h hg
  rw [e1, tn_nI (by omega)] at hj
  exact e5 j hj
theorem so_best (h : GB as ws V) : (vNf V = 0 ∧ bstN (fun g => ofV V.1 2 (vF V g)) (vNf V) = none) ∨ ∃ i, i < vNf V ∧ bstN (fun g => ofV V.1 2 (vF V g)) (vNf V) = some i ∧ ∀ j, j < vNf V → rv (ofV V.1 2 (vF V i)) ≤ rv (ofV V.1 2 (vF V j)) := bst_le (vNf V) fun j hj => (so_o2 h hj).1
theorem isF_nI {g n : Nat} (hn : n ≤ 6) (hg : g ≤ 6) : isF (nI g) (nI n) ↔ g < n := by
  constructor
  · intro z
    have h1 := isF_lt hn z
    rw [tn_nI (by omega)] at h1
    exact h1
  · intro z
    exact m1_in (by omega) z
theorem toL_ne {x : Int32} : ¬ x.toInt64 = sen := by
  intro h
  have h1 := congrArg Int64.toInt h
  rw [Int32.toInt_toInt64] at h1
  have h2 := Int32.le_toInt x
  rw [show sen.toInt = -9000000000000000 by decide] at h1
  omega
theorem so_cnt {g n : Nat} (hn : n ≤ 6) (hg : g ≤ 6) {w : Int32} (hw : 0 ≤ w ∧ w ≤ 3) (hV : vNf V = n) : (vCount (nI g) w V).1 = if g < n then (countV w (vF V g)).toInt64 else sen := by
  show (if ofC (nI g) w (nI (vNf V)) = 0 then (countV w (vF V (tn (nI g)))).toInt64 else sen) = _
  rw [hV, tn_nI (by omega)]
  unfold ofC
  by_cases z : g < n
  · rw [if_pos z, if_pos ((isF_nI hn hg).mpr z), if_pos hw]
    rfl
  · rw [if_neg z, if_neg (fun y => z ((isF_nI hn hg).mp y))]
    rfl
end SOF
