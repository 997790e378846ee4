/-! ===== act ===== -/
def lowV (v n : Int32) : Int32 := (v &&& 2147483647) - (v &&& 2147483647) / n * n
def vBest (V : BV) : Int64 × BV := ((bstI (bstN (fun g => ofV V.1 2 (vF V g)) (vNf V))).toInt64, V)
/-- what a case of act does -/
def selV (c : Int32) (x0 x3 x6 x7 x8 x9 x17 x18 x20 x22 x23 x24 x25 : Int64 × BV) : Int64 × BV :=
  if c = 0 ∨ c = 1 ∨ c = 2 then x0 else if c = 3 ∨ c = 4 ∨ c = 5 then x3 else if c = 6 then x6 else if c = 7 then x7 else if c = 8 then x8
  else if c = 9 ∨ c = 10 ∨ c = 11 ∨ c = 12 ∨ c = 13 ∨ c = 14 ∨ c = 15 ∨ c = 16 then x9 else if c = 17 then x17 else if c = 18 ∨ c = 19 then x18 else if c = 20 ∨ c = 21 then x20
  else if c = 22 then x22 else if c = 23 then x23 else if c = 24 then x24 else x25
theorem in_24 {c : Int32} (h : ¬ (c.toInt < 0 ∨ 24 < c.toInt)) : c = 0 ∨ c = 1 ∨ c = 2 ∨ c = 3 ∨ c = 4 ∨ c = 5 ∨ c = 6 ∨ c = 7 ∨ c = 8 ∨ c = 9 ∨ c = 10 ∨ c = 11 ∨ c = 12 ∨ c = 13 ∨ c = 14 ∨ c = 15 ∨ c = 16 ∨ c = 17 ∨ c = 18 ∨ c = 19 ∨ c = 20 ∨ c = 21 ∨ c = 22 ∨ c = 23 ∨ c = 24 := by
  have h1 : 0 ≤ c.toInt := by omega
  have h2 : c.toInt ≤ 24 := by omega
  have e : ∀ k : Int32, c.toInt = k.toInt → c = k := fun k h => Int32.toInt_inj.mp h
  rcases (show c.toInt = 0 ∨ c.toInt = 1 ∨ c.toInt = 2 ∨ c.toInt = 3 ∨ c.toInt = 4 ∨ c.toInt = 5 ∨ c.toInt = 6 ∨ c.toInt = 7 ∨ c.toInt = 8 ∨ c.toInt = 9 ∨ c.toInt = 10 ∨ c.toInt = 11 ∨ c.toInt = 12 ∨ c.toInt = 13 ∨ c.toInt = 14 ∨ c.toInt = 15 ∨ c.toInt = 16 ∨ c.toInt = 17 ∨ c.toInt = 18 ∨ c.toInt = 19 ∨ c.toInt = 20 ∨ c.toInt = 21 ∨ c.toInt = 22 ∨ c.toInt = 23 ∨ c.toInt = 24 by omega) with h | h | h | h | h | h | h | h | h | h | h | h | h | h | h | h | h | h | h | h | h | h | h | h | h
  · exact Or.inl (e 0 h)
  · exact Or.inr (Or.inl (e 1 h))
  · exact Or.inr (Or.inr (Or.inl (e 2 h)))
  · exact Or.inr (Or.inr (Or.inr (Or.inl (e 3 h))))
  · exact Or.inr (Or.inr (Or.inr (Or.inr (Or.inl (e 4 h)))))
  · exact Or.inr (Or.inr (Or.inr (Or.inr (Or.inr (Or.inl (e 5 h))))))
  · exact Or.inr (Or.inr (Or.inr (Or.inr (Or.inr (Or.inr (Or.inl (e 6 h)))))))
  · exact Or.inr (Or.inr (Or.inr (Or.inr (Or.inr (Or.inr (Or.inr (Or.inl (e 7 h))))))))
  · exact Or.inr (Or.inr (Or.inr (Or.inr (Or.inr (Or.inr (Or.inr (Or.inr (Or.inl (e 8 h)))))))))
  · exact Or.inr (Or.inr (Or.inr (Or.inr (Or.inr (Or.inr (Or.inr (Or.inr (Or.inr (Or.inl (e 9 h))))))))))
  · exact Or.inr (Or.inr (Or.inr (Or.inr (Or.inr (Or.inr (Or.inr (Or.inr (Or.inr (Or.inr (Or.inl (e 10 h)))))))))))
  · exact Or.inr (Or.inr (Or.inr (Or.inr (Or.inr (Or.inr (Or.inr (Or.inr (Or.inr (Or.inr (Or.inr (Or.inl (e 11 h))))))))))))
  · exact Or.inr (Or.inr (Or.inr (Or.inr (Or.inr (Or.inr (Or.inr (Or.inr (Or.inr (Or.inr (Or.inr (Or.inr (Or.inl (e 12 h)))))))))))))
  · exact Or.inr (Or.inr (Or.inr (Or.inr (Or.inr (Or.inr (Or.inr (Or.inr (Or.inr (Or.inr (Or.inr (Or.inr (Or.inr (Or.inl (e 13 h))))))))))))))
  · exact Or.inr (Or.inr (Or.inr (Or.inr (Or.inr (Or.inr (Or.inr (Or.inr (Or.inr (Or.inr (Or.inr (Or.inr (Or.inr (Or.inr (Or.inl (e 14 h)))))))))))))))
  · exact Or.inr (Or.inr (Or.inr (Or.inr (Or.inr (Or.inr (Or.inr (Or.inr (Or.inr (Or.inr (Or.inr (Or.inr (Or.inr (Or.inr (Or.inr (Or.inl (e 15 h))))))))))))))))
  · exact Or.inr (Or.inr (Or.inr (Or.inr (Or.inr (Or.inr (Or.inr (Or.inr (Or.inr (Or.inr (Or.inr (Or.inr (Or.inr (Or.inr (Or.inr (Or.inr (Or.inl (e 16 h)))))))))))))))))
  · exact Or.inr (Or.inr (Or.inr (Or.inr (Or.inr (Or.inr (Or.inr (Or.inr (Or.inr (Or.inr (Or.inr (Or.inr (Or.inr (Or.inr (Or.inr (Or.inr (Or.inr (Or.inl (e 17 h))))))))))))))))))
  · exact Or.inr (Or.inr (Or.inr (Or.inr (Or.inr (Or.inr (Or.inr (Or.inr (Or.inr (Or.inr (Or.inr (Or.inr (Or.inr (Or.inr (Or.inr (Or.inr (Or.inr (Or.inr (Or.inl (e 18 h)))))))))))))))))))
  · exact Or.inr (Or.inr (Or.inr (Or.inr (Or.inr (Or.inr (Or.inr (Or.inr (Or.inr (Or.inr (Or.inr (Or.inr (Or.inr (Or.inr (Or.inr (Or.inr (Or.inr (Or.inr (Or.inr (Or.inl (e 19 h))))))))))))))))))))
  · exact Or.inr (Or.inr (Or.inr (Or.inr (Or.inr (Or.inr (Or.inr (Or.inr (Or.inr (Or.inr (Or.inr (Or.inr (Or.inr (Or.inr (Or.inr (Or.inr (Or.inr (Or.inr (Or.inr (Or.inr (Or.inl (e 20 h)))))))))))))))))))))
  · exact Or.inr (Or.inr (Or.inr (Or.inr (Or.inr (Or.inr (Or.inr (Or.inr (Or.inr (Or.inr (Or.inr (Or.inr (Or.inr (Or.inr (Or.inr (Or.inr (Or.inr (Or.inr (Or.inr (Or.inr (Or.inr (Or.inl (e 21 h))))))))))))))))))))))
  · exact Or.inr (Or.inr (Or.inr (Or.inr (Or.inr (Or.inr (Or.inr (Or.inr (Or.inr (Or.inr (Or.inr (Or.inr (Or.inr (Or.inr (Or.inr (Or.inr (Or.inr (Or.inr (Or.inr (Or.inr (Or.inr (Or.inr (Or.inl (e 22 h)))))))))))))))))))))))
  · exact Or.inr (Or.inr (Or.inr (Or.inr (Or.inr (Or.inr (Or.inr (Or.inr (Or.inr (Or.inr (Or.inr (Or.inr (Or.inr (Or.inr (Or.inr (Or.inr (Or.inr (Or.inr (Or.inr (Or.inr (Or.inr (Or.inr (Or.inr (Or.inl (e 23 h))))))))))))))))))))))))
  · exact Or.inr (Or.inr (Or.inr (Or.inr (Or.inr (Or.inr (Or.inr (Or.inr (Or.inr (Or.inr (Or.inr (Or.inr (Or.inr (Or.inr (Or.inr (Or.inr (Or.inr (Or.inr (Or.inr (Or.inr (Or.inr (Or.inr (Or.inr (Or.inr ((e 24 h)))))))))))))))))))))))))
theorem selV_out {c : Int32} (h : c.toInt < 0 ∨ 24 < c.toInt) (x0 x3 x6 x7 x8 x9 x17 x18 x20 x22 x23 x24 x25 : Int64 × BV) : selV c x0 x3 x6 x7 x8 x9 x17 x18 x20 x22 x23 x24 x25 = x25 := by
  have e : ∀ k : Int32, (0 ≤ k.toInt ∧ k.toInt ≤ 24) → ¬ c = k := fun k hk z => by rw [z] at h; omega
  unfold selV
  simp only [e 0 (by decide), e 1 (by decide), e 2 (by decide), e 3 (by decide), e 4 (by decide), e 5 (by decide), e 6 (by decide), e 7 (by decide), e 8 (by decide), e 9 (by decide), e 10 (by decide), e 11 (by decide), e 12 (by decide), e 13 (by decide), e 14 (by decide), e 15 (by decide), e 16 (by decide), e 17 (by decide), e 18 (by decide), e 19 (by decide), e 20 (by decide), e 21 (by decide), e 22 (by decide), e 23 (by decide), e 24 (by decide), or_self, if_false]
def actO (v : Int32) (V : BV) : Int64 × BV := selV (lowV v 26) (vPath ((lowV (v >>> (8 &&& 31)) 11) - 1) (v >>> (9 &&& 31)) V) (vFilter ((lowV (v >>> (11 &&& 31)) 7) - 1) ((lowV (v >>> (8 &&& 31)) 11) - 1) (v >>> (9 &&& 31)) V) (vStep ((lowV (v >>> (5 &&& 31)) 9) - 1) (v >>> (9 &&& 31)) V) (vWatch ((lowV (v >>> (5 &&& 31)) 9) - 1) (v >>> (9 &&& 31)) (v >>> (4 &&& 31)) V) (if (lowV (v >>> (16 &&& 31)) 3) = 0 then vBegin ((lowV (v >>> (5 &&& 31)) 9) - 1) V else vCount ((lowV (v >>> (5 &&& 31)) 9) - 1) (v >>> (9 &&& 31)) V) (vFeed (v >>> (9 &&& 31)) (v >>> (4 &&& 31)) V) (vScript (v >>> (9 &&& 31)) (v >>> (9 &&& 31)) V) (vWeight ((lowV (v >>> (5 &&& 31)) 9) - 1) ((lowV (v >>> (8 &&& 31)) 11) - 1) V) (vOf ((lowV (v >>> (5 &&& 31)) 9) - 1) (v >>> (9 &&& 31)) V) (vBatch (v >>> (9 &&& 31)) V) (vSquare ((lowV (v >>> (5 &&& 31)) 9) - 1) ((lowV (v >>> (8 &&& 31)) 11) - 1) ((lowV (v >>> (11 &&& 31)) 7) - 1) V) (vBest V) (vCount ((lowV (v >>> (5 &&& 31)) 9) - 1) (v >>> (9 &&& 31)) V)
def actE (v : Int32) (V : BV) : Int64 × BV := selV (lowV v 26) (vPath (lowV (v >>> (8 &&& 31)) 4) ((lowV (v >>> (9 &&& 31)) 900) - 450) V) (vFilter (lowV (v >>> (11 &&& 31)) 4) ((1 : Int32) + (lowV (v >>> (8 &&& 31)) 4)) (if (lowV (v >>> (11 &&& 31)) 4) = 3 then (500 : Int32) + (lowV (v >>> (9 &&& 31)) 501) else (1 : Int32) + (lowV (v >>> (9 &&& 31)) 400)) V) (vStep (lowV (v >>> (5 &&& 31)) 3) ((500 : Int32) + (lowV (v >>> (9 &&& 31)) 500)) V) (vWatch (lowV (v >>> (5 &&& 31)) 3) (lowV (v >>> (9 &&& 31)) 300) (lowV (v >>> (4 &&& 31)) 6) V) (if (lowV (v >>> (16 &&& 31)) 3) = 0 then vBegin (lowV (v >>> (5 &&& 31)) 3) V else vCount (lowV (v >>> (5 &&& 31)) 3) (lowV (v >>> (9 &&& 31)) 4) V) (vFeed ((lowV (v >>> (9 &&& 31)) 900) - 450) (if (lowV (v >>> (17 &&& 31)) 3) = 0 then (lowV (v >>> (4 &&& 31)) 400) - 200 else 0) V) (vScript (lowV (v >>> (9 &&& 31)) 2001) ((1 : Int32) + (lowV (v >>> (6 &&& 31)) 8)) V) (vWeight (lowV (v >>> (5 &&& 31)) 3) (lowV (v >>> (8 &&& 31)) 4) V) (vOf (lowV (v >>> (5 &&& 31)) 3) (lowV (v >>> (9 &&& 31)) 4) V) (vBatch (lowV (v >>> (9 &&& 31)) 2) V) (vSquare (lowV (v >>> (5 &&& 31)) 3) (lowV (v >>> (8 &&& 31)) 4) (lowV (v >>> (9 &&& 31)) 3) V) (vBest V) (vCount (lowV (v >>> (5 &&& 31)) 3) (lowV (v >>> (9 &&& 31)) 4) V)
def vAct (v : Int32) (V : BV) : Int64 × BV := if lowV (v >>> (26 &&& 31)) 14 = 0 then actO v V else actE v V
theorem best_V {V : BV} {u : BCt} (h : bOk V u) : bstI (bstN (offC (uP u) (uC u)) (uN u)) = bstI (bstN (fun g => ofV V.1 2 (vF V g)) (vNf V)) := by
  have h1 : vNf V = uN u := h.1.symm
  rw [h1]
  refine congrArg bstI (bstN_congr fun g hg => ?_)
  rw [← bOk_F h hg, ofV_2 (h.2.2.2.2.2.2.2 g hg), ← h.2.2.1]
theorem selV_0 (x0 x3 x6 x7 x8 x9 x17 x18 x20 x22 x23 x24 x25 : Int64 × BV) : selV 0 x0 x3 x6 x7 x8 x9 x17 x18 x20 x22 x23 x24 x25 = x0 := rfl
theorem selV_1 (x0 x3 x6 x7 x8 x9 x17 x18 x20 x22 x23 x24 x25 : Int64 × BV) : selV 1 x0 x3 x6 x7 x8 x9 x17 x18 x20 x22 x23 x24 x25 = x0 := rfl
theorem selV_2 (x0 x3 x6 x7 x8 x9 x17 x18 x20 x22 x23 x24 x25 : Int64 × BV) : selV 2 x0 x3 x6 x7 x8 x9 x17 x18 x20 x22 x23 x24 x25 = x0 := rfl
theorem selV_3 (x0 x3 x6 x7 x8 x9 x17 x18 x20 x22 x23 x24 x25 : Int64 × BV) : selV 3 x0 x3 x6 x7 x8 x9 x17 x18 x20 x22 x23 x24 x25 = x3 := rfl
theorem selV_4 (x0 x3 x6 x7 x8 x9 x17 x18 x20 x22 x23 x24 x25 : Int64 × BV) : selV 4 x0 x3 x6 x7 x8 x9 x17 x18 x20 x22 x23 x24 x25 = x3 := rfl
theorem selV_5 (x0 x3 x6 x7 x8 x9 x17 x18 x20 x22 x23 x24 x25 : Int64 × BV) : selV 5 x0 x3 x6 x7 x8 x9 x17 x18 x20 x22 x23 x24 x25 = x3 := rfl
theorem selV_6 (x0 x3 x6 x7 x8 x9 x17 x18 x20 x22 x23 x24 x25 : Int64 × BV) : selV 6 x0 x3 x6 x7 x8 x9 x17 x18 x20 x22 x23 x24 x25 = x6 := rfl
theorem selV_7 (x0 x3 x6 x7 x8 x9 x17 x18 x20 x22 x23 x24 x25 : Int64 × BV) : selV 7 x0 x3 x6 x7 x8 x9 x17 x18 x20 x22 x23 x24 x25 = x7 := rfl
theorem selV_8 (x0 x3 x6 x7 x8 x9 x17 x18 x20 x22 x23 x24 x25 : Int64 × BV) : selV 8 x0 x3 x6 x7 x8 x9 x17 x18 x20 x22 x23 x24 x25 = x8 := rfl
theorem selV_9 (x0 x3 x6 x7 x8 x9 x17 x18 x20 x22 x23 x24 x25 : Int64 × BV) : selV 9 x0 x3 x6 x7 x8 x9 x17 x18 x20 x22 x23 x24 x25 = x9 := rfl
theorem selV_10 (x0 x3 x6 x7 x8 x9 x17 x18 x20 x22 x23 x24 x25 : Int64 × BV) : selV 10 x0 x3 x6 x7 x8 x9 x17 x18 x20 x22 x23 x24 x25 = x9 := rfl
theorem selV_11 (x0 x3 x6 x7 x8 x9 x17 x18 x20 x22 x23 x24 x25 : Int64 × BV) : selV 11 x0 x3 x6 x7 x8 x9 x17 x18 x20 x22 x23 x24 x25 = x9 := rfl
theorem selV_12 (x0 x3 x6 x7 x8 x9 x17 x18 x20 x22 x23 x24 x25 : Int64 × BV) : selV 12 x0 x3 x6 x7 x8 x9 x17 x18 x20 x22 x23 x24 x25 = x9 := rfl
theorem selV_13 (x0 x3 x6 x7 x8 x9 x17 x18 x20 x22 x23 x24 x25 : Int64 × BV) : selV 13 x0 x3 x6 x7 x8 x9 x17 x18 x20 x22 x23 x24 x25 = x9 := rfl
theorem selV_14 (x0 x3 x6 x7 x8 x9 x17 x18 x20 x22 x23 x24 x25 : Int64 × BV) : selV 14 x0 x3 x6 x7 x8 x9 x17 x18 x20 x22 x23 x24 x25 = x9 := rfl
theorem selV_15 (x0 x3 x6 x7 x8 x9 x17 x18 x20 x22 x23 x24 x25 : Int64 × BV) : selV 15 x0 x3 x6 x7 x8 x9 x17 x18 x20 x22 x23 x24 x25 = x9 := rfl
theorem selV_16 (x0 x3 x6 x7 x8 x9 x17 x18 x20 x22 x23 x24 x25 : Int64 × BV) : selV 16 x0 x3 x6 x7 x8 x9 x17 x18 x20 x22 x23 x24 x25 = x9 := rfl
theorem selV_17 (x0 x3 x6 x7 x8 x9 x17 x18 x20 x22 x23 x24 x25 : Int64 × BV) : selV 17 x0 x3 x6 x7 x8 x9 x17 x18 x20 x22 x23 x24 x25 = x17 := rfl
theorem selV_18 (x0 x3 x6 x7 x8 x9 x17 x18 x20 x22 x23 x24 x25 : Int64 × BV) : selV 18 x0 x3 x6 x7 x8 x9 x17 x18 x20 x22 x23 x24 x25 = x18 := rfl
theorem selV_19 (x0 x3 x6 x7 x8 x9 x17 x18 x20 x22 x23 x24 x25 : Int64 × BV) : selV 19 x0 x3 x6 x7 x8 x9 x17 x18 x20 x22 x23 x24 x25 = x18 := rfl
theorem selV_20 (x0 x3 x6 x7 x8 x9 x17 x18 x20 x22 x23 x24 x25 : Int64 × BV) : selV 20 x0 x3 x6 x7 x8 x9 x17 x18 x20 x22 x23 x24 x25 = x20 := rfl
theorem selV_21 (x0 x3 x6 x7 x8 x9 x17 x18 x20 x22 x23 x24 x25 : Int64 × BV) : selV 21 x0 x3 x6 x7 x8 x9 x17 x18 x20 x22 x23 x24 x25 = x20 := rfl
theorem selV_22 (x0 x3 x6 x7 x8 x9 x17 x18 x20 x22 x23 x24 x25 : Int64 × BV) : selV 22 x0 x3 x6 x7 x8 x9 x17 x18 x20 x22 x23 x24 x25 = x22 := rfl
theorem selV_23 (x0 x3 x6 x7 x8 x9 x17 x18 x20 x22 x23 x24 x25 : Int64 × BV) : selV 23 x0 x3 x6 x7 x8 x9 x17 x18 x20 x22 x23 x24 x25 = x23 := rfl
theorem selV_24 (x0 x3 x6 x7 x8 x9 x17 x18 x20 x22 x23 x24 x25 : Int64 × BV) : selV 24 x0 x3 x6 x7 x8 x9 x17 x18 x20 x22 x23 x24 x25 = x24 := rfl

set_option maxHeartbeats 4000000 in
set_option maxRecDepth 100000 in
/-- low -/
theorem m_L_low (l : Launch) (G : va_G) (q : Nat → ClassId) (sz : Nat) (v n : Int32) (hn0 : ¬ n = 0) : Met l yL_low wsL_low ({ frames := 0, cells := 0, slots := 0, locals := 0 } : Jvm.Room) (PreW G q [.int v, .int n] [] sz) (va_Qi (fun (r : Int32) (_ : Unit) => r = lowV v n) (fun (_ : Unit) t => EndA G (va_A [] sz) [] t) (va_A [] sz)) 0 0 (va_A [] sz) := by
  refine Met.ofW (cc := cL_low) (maxL := 2) (ret := (some .int)) (by decide +kernel) rfl ?_
  intro p e s m args below meth c s₁ B hml hv
  obtain ⟨rfl, hsz, hP, hK, hD0, hNF⟩ := hv
  have hx := B.exec
  have hb := B.bytes
  have hr := B.returns
  have hts := atoms_spec (ws := wsL_low) B.pre
  have hown : s.vm.findClass RL = some m.cls := findClass_of_methodNamed B.named
  have hlocks := B.notSynchronized
  subst hsz
  have hD := hD0.self (sz := s.heap.size)
  generalize hAe : va_A [] s.heap.size = A at hD ⊢
  have hA : ∀ q : Nat, s.heap.size ≤ q → A q := fun q h => by rw [← hAe]; exact Or.inr h
  have hS : va_S A s.heap s.heap [] := va_S.rf
  have hP : va_P G vwCl [] s.heap := hP
  have hl := lv_entry ([.int v, .int n]) (n := 2) (Nat.le_of_ble_eq_true rfl)
  rw [lg_entry_eq]
  generalize (lg_sl ([.int v, .int n]) ++ List.replicate (2 - (lg_sl ([.int v, .int n])).length) Slot.unset).toArray = ls at hl ⊢
  have hl : lv_has ls 2 [(0, .int v), (1, .int n)] := hl
  refine lv_iload_n hx hb dL_low_0 rfl (lv_at hl 0 rfl) ?_
  refine lv_ldc hx hb hown (hts (.constant RL 7 (2147483647)) (by decide +kernel)) dL_low_1 ?_
  refine lv_iand hx hb dL_low_3 ?_
  refine lv_topi (fun x1 ex1 => ?_)
  refine lv_iload_n hx hb dL_low_4 rfl (lv_at hl 1 rfl) ?_
  refine lv_irem hx hb dL_low_5 hn0 ?_
  refine lv_topi (fun x2 ex2 => ?_)
  have hP9 := hP
  have hD9 := hD
  exact W.iret (v := x2) hx hb hr (fun t ht hW => ⟨⟨x2, (), rfl, by rw [ex2, ex1]; rfl, by rw [ht]; exact hP9, hD9⟩, hS.F ht⟩) hS.2.2 dL_low_6

set_option maxHeartbeats 4000000 in
set_option maxRecDepth 100000 in
/-- act -/
theorem m_L_act (l : Launch) (G : va_G) (q : Nat → ClassId) (sz : Nat) (ad : Nat → Nat) (V : BV) (u : BCt) (v : Int32) (hst : l.stackTraces = false) (hu : bOk V u) : MetD lw_cs l yL_act wsL_act ({ frames := 10, cells := 11, slots := 73, locals := 294 } : Jvm.Room) (PreY G q [.ref (ad 0), .int v] ([((ad 0), .inr (3, [.ref (ad 1), .ref (ad 2), .int (nI (uN u))])), ((ad 2), aF q 6 (fun j => if j < uN u then some (uO u j) else none)), ((ad 1), .inr (1, [.ref (ad 3), .ref (ad 4), .ref (ad 5), .ref (ad 6), .ref (ad 7), .double (uM u), .int (nI (uT u))])), ((ad 3), aI q 8 (uP u)), ((ad 4), aD q 8 (fun i => FP.i2d (uX u i))), ((ad 5), aD q 16 (fun i => FP.i2d (uA u i))), ((ad 6), aD q 16 (fun i => FP.i2d (uB u i))), ((ad 7), aD q 16 (uF u))] ++ TW (uN u) (WQ q (uC u))) sz) (va_Ql (fun (r : Int64) (w : BCt) => r = (vAct v V).1 ∧ bOk (vAct v V).2 w) (fun (w : BCt) t => EndA G (va_A ([((ad 0), .inr (3, [.ref (ad 1), .ref (ad 2), .int (nI (uN u))])), ((ad 2), aF q 6 (fun j => if j < uN u then some (uO u j) else none)), ((ad 1), .inr (1, [.ref (ad 3), .ref (ad 4), .ref (ad 5), .ref (ad 6), .ref (ad 7), .double (uM u), .int (nI (uT u))])), ((ad 3), aI q 8 (uP u)), ((ad 4), aD q 8 (fun i => FP.i2d (uX u i))), ((ad 5), aD q 16 (fun i => FP.i2d (uA u i))), ((ad 6), aD q 16 (fun i => FP.i2d (uB u i))), ((ad 7), aD q 16 (uF u))] ++ TW (uN u) (WQ q (uC u))) sz) ([((ad 0), .inr (3, [.ref (ad 1), .ref (ad 2), .int (nI (uN w))])), ((ad 2), aF q 6 (fun j => if j < uN w then some (uO w j) else none)), ((ad 1), .inr (1, [.ref (ad 3), .ref (ad 4), .ref (ad 5), .ref (ad 6), .ref (ad 7), .double (uM w), .int (nI (uT w))])), ((ad 3), aI q 8 (uP w)), ((ad 4), aD q 8 (fun i => FP.i2d (uX w i))), ((ad 5), aD q 16 (fun i => FP.i2d (uA w i))), ((ad 6), aD q 16 (fun i => FP.i2d (uB w i))), ((ad 7), aD q 16 (uF w))] ++ TW (uN w) (WQ q (uC w))) t) (va_A ([((ad 0), .inr (3, [.ref (ad 1), .ref (ad 2), .int (nI (uN u))])), ((ad 2), aF q 6 (fun j => if j < uN u then some (uO u j) else none)), ((ad 1), .inr (1, [.ref (ad 3), .ref (ad 4), .ref (ad 5), .ref (ad 6), .ref (ad 7), .double (uM u), .int (nI (uT u))])), ((ad 3), aI q 8 (uP u)), ((ad 4), aD q 8 (fun i => FP.i2d (uX u i))), ((ad 5), aD q 16 (fun i => FP.i2d (uA u i))), ((ad 6), aD q 16 (fun i => FP.i2d (uB u i))), ((ad 7), aD q 16 (uF u))] ++ TW (uN u) (WQ q (uC u))) sz)) 11 73 (va_A ([((ad 0), .inr (3, [.ref (ad 1), .ref (ad 2), .int (nI (uN u))])), ((ad 2), aF q 6 (fun j => if j < uN u then some (uO u j) else none)), ((ad 1), .inr (1, [.ref (ad 3), .ref (ad 4), .ref (ad 5), .ref (ad 6), .ref (ad 7), .double (uM u), .int (nI (uT u))])), ((ad 3), aI q 8 (uP u)), ((ad 4), aD q 8 (fun i => FP.i2d (uX u i))), ((ad 5), aD q 16 (fun i => FP.i2d (uA u i))), ((ad 6), aD q 16 (fun i => FP.i2d (uB u i))), ((ad 7), aD q 16 (uF u))] ++ TW (uN u) (WQ q (uC u))) sz) := by
  refine MetD.ofW (cc := cL_act) (maxL := 7) (ret := (some .long)) (by decide +kernel) rfl ?_
  intro p e s m args below meth c s₁ B hml hv hd0
  obtain ⟨⟨⟨rfl, hsz, hP, hK, hD0, hNF⟩, hNT⟩, hNC⟩ := hv
  have hx := B.exec
  have hb := B.bytes
  have hr := B.returns
  have hts := atoms_spec (ws := wsL_act) B.pre
  have hown : s.vm.findClass RL = some m.cls := findClass_of_methodNamed B.named
  have hlocks := B.notSynchronized
  subst hsz
  have hD := hD0.self (sz := s.heap.size)
  generalize hAe : va_A ([((ad 0), .inr (3, [.ref (ad 1), .ref (ad 2), .int (nI (uN u))])), ((ad 2), aF q 6 (fun j => if j < uN u then some (uO u j) else none)), ((ad 1), .inr (1, [.ref (ad 3), .ref (ad 4), .ref (ad 5), .ref (ad 6), .ref (ad 7), .double (uM u), .int (nI (uT u))])), ((ad 3), aI q 8 (uP u)), ((ad 4), aD q 8 (fun i => FP.i2d (uX u i))), ((ad 5), aD q 16 (fun i => FP.i2d (uA u i))), ((ad 6), aD q 16 (fun i => FP.i2d (uB u i))), ((ad 7), aD q 16 (uF u))] ++ TW (uN u) (WQ q (uC u))) s.heap.size = A at hD hNT ⊢
  have hA : ∀ q : Nat, s.heap.size ≤ q → A q := fun q h => by rw [← hAe]; exact Or.inr h
  have hS : va_S A s.heap s.heap [] := va_S.rf
  have hP : va_P G vwCl ([((ad 0), .inr (3, [.ref (ad 1), .ref (ad 2), .int (nI (uN u))])), ((ad 2), aF q 6 (fun j => if j < uN u then some (uO u j) else none)), ((ad 1), .inr (1, [.ref (ad 3), .ref (ad 4), .ref (ad 5), .ref (ad 6), .ref (ad 7), .double (uM u), .int (nI (uT u))])), ((ad 3), aI q 8 (uP u)), ((ad 4), aD q 8 (fun i => FP.i2d (uX u i))), ((ad 5), aD q 16 (fun i => FP.i2d (uA u i))), ((ad 6), aD q 16 (fun i => FP.i2d (uB u i))), ((ad 7), aD q 16 (uF u))] ++ TW (uN u) (WQ q (uC u))) s.heap := hP
  have hl := lv_entry ([.ref (ad 0), .int v]) (n := 7) (Nat.le_of_ble_eq_true rfl)
  rw [lg_entry_eq]
  generalize (lg_sl ([.ref (ad 0), .int v]) ++ List.replicate (7 - (lg_sl ([.ref (ad 0), .int v])).length) Slot.unset).toArray = ls at hl ⊢
  have hl : lv_has ls 7 [(0, .ref (ad 0)), (1, .int v)] := hl
  refine lv_iload_n hx hb dL_act_0 rfl (lv_at hl 1 rfl) ?_
  refine lv_bipush (v := 26) hx hb dL_act_1 (by decide) ?_
  refine lv_ishr hx hb dL_act_3 ?_
  refine lv_bipush (v := 14) hx hb dL_act_4 (by decide) ?_
  have hPc := hP.sub (ws' := []) [] rfl
  have hDc := hD.sub (ws' := []) [] (by decide) rfl
  have hFc := va_free (wc := []) hD hS hA [] rfl
  refine va_calli (va_runS (As := [.int (v >>> (26 &&& 31)), .int 14]) (rest := []) ⟨hx, hb, hml, hown, (dr_words hts s.drawn)⟩ (m_L_low l G q s.heap.size (v >>> (26 &&& 31)) 14 (by decide)) (va_cwS 2 (dr_words hts s.drawn) gL_act_L_low rfl rfl rfl (by decide +kernel) ⟨Nat.le_of_ble_eq_true rfl, Nat.le_of_ble_eq_true rfl⟩) ⟨preW_blind, preW_start (s := s.setDrawn s.drawn) hPc hK hDc (hNF.drawn s.drawn)⟩ rfl rfl hl.1 rfl (lv_room (Nat.le_of_ble_eq_true rfl)) dL_act_6 ⟨(by show _ ≤ 11; omega), (by show _ ≤ 73; omega)⟩) hS (fun q _ h => hFc q h) hFc (fun rl u9 t9 H1 locs ht9 hv9 hw hB9 hz9 hk9 hS => ?_)
  obtain ⟨⟩ := u9
  obtain ⟨hP1, hD1⟩ := hB9
  rw [ht9] at hP1
  obtain ⟨hP, hD⟩ := va_joinQ (wr := [((ad 0), .inr (3, [.ref (ad 1), .ref (ad 2), .int (nI (uN u))])), ((ad 2), aF q 6 (fun j => if j < uN u then some (uO u j) else none)), ((ad 1), .inr (1, [.ref (ad 3), .ref (ad 4), .ref (ad 5), .ref (ad 6), .ref (ad 7), .double (uM u), .int (nI (uT u))])), ((ad 3), aI q 8 (uP u)), ((ad 4), aD q 8 (fun i => FP.i2d (uX u i))), ((ad 5), aD q 16 (fun i => FP.i2d (uA u i))), ((ad 6), aD q 16 (fun i => FP.i2d (uB u i))), ((ad 7), aD q 16 (uF u))]) (w1 := []) hP hD [] [0, 1, 2, 3, 4, 5, 6, 7] rfl rfl (by decide) (by decide) hk9 hFc hP1 hD1
  generalize H1 = H at hP hS ⊢
  have hP : va_P G vwCl ([((ad 0), .inr (3, [.ref (ad 1), .ref (ad 2), .int (nI (uN u))])), ((ad 2), aF q 6 (fun j => if j < uN u then some (uO u j) else none)), ((ad 1), .inr (1, [.ref (ad 3), .ref (ad 4), .ref (ad 5), .ref (ad 6), .ref (ad 7), .double (uM u), .int (nI (uT u))])), ((ad 3), aI q 8 (uP u)), ((ad 4), aD q 8 (fun i => FP.i2d (uX u i))), ((ad 5), aD q 16 (fun i => FP.i2d (uA u i))), ((ad 6), aD q 16 (fun i => FP.i2d (uB u i))), ((ad 7), aD q 16 (uF u))] ++ TW (uN u) (WQ q (uC u))) H := hP
  have hD : va_D A ([((ad 0), .inr (3, [.ref (ad 1), .ref (ad 2), .int (nI (uN u))])), ((ad 2), aF q 6 (fun j => if j < uN u then some (uO u j) else none)), ((ad 1), .inr (1, [.ref (ad 3), .ref (ad 4), .ref (ad 5), .ref (ad 6), .ref (ad 7), .double (uM u), .int (nI (uT u))])), ((ad 3), aI q 8 (uP u)), ((ad 4), aD q 8 (fun i => FP.i2d (uX u i))), ((ad 5), aD q 16 (fun i => FP.i2d (uA u i))), ((ad 6), aD q 16 (fun i => FP.i2d (uB u i))), ((ad 7), aD q 16 (uF u))] ++ TW (uN u) (WQ q (uC u))) := hD
  try dsimp only at hw
  subst hw
  by_cases hcnd1 : (lowV (v >>> (26 &&& 31)) 14) = 0
  · skip
    refine lv_if_ne (tgt := 16) hx hb dL_act_9 (by decide) (fun h => absurd hcnd1 h) (fun _ => ?_)
    refine lv_iconst (v := 1) hx hb dL_act_12 (by decide) ?_
    refine lv_goto (tgt := 17) hx hb dL_act_13 (by decide) ?_
    refine lv_istore_n (lv' := [(2, .int 1), (0, .ref (ad 0)), (1, .int v)]) hx hb dL_act_17 rfl hl (by decide) rfl (fun ls hl => ?_)
    refine lv_iload_n hx hb dL_act_18 rfl (lv_at hl 0 rfl) ?_
    refine lv_if_eq (tgt := 35) hx hb dL_act_19 (by decide) (fun h => absurd h (by decide)) (fun _ => ?_)
    refine lv_iload_n hx hb dL_act_22 rfl (lv_at hl 2 rfl) ?_
    refine lv_iconst (v := 5) hx hb dL_act_23 (by decide) ?_
    refine lv_ishr hx hb dL_act_24 ?_
    refine lv_bipush (v := 9) hx hb dL_act_25 (by decide) ?_
    have hPc := hP.sub (ws' := []) [] rfl
    have hDc := hD.sub (ws' := []) [] (by decide) rfl
    have hFc := va_free (wc := []) hD hS hA [] rfl
    refine va_calli (va_runS (As := [.int (v >>> (5 &&& 31)), .int 9]) (rest := []) ⟨hx, hb, hml, hown, (dr_words hts s.drawn)⟩ (m_L_low l G q H.size (v >>> (5 &&& 31)) 9 (by decide)) (va_cwS 2 (dr_words hts s.drawn) gL_act_L_low rfl rfl rfl (by decide +kernel) ⟨Nat.le_of_ble_eq_true rfl, Nat.le_of_ble_eq_true rfl⟩) ⟨preW_blind, preW_start (s := s.setDrawn s.drawn) hPc hK hDc (hNF.drawn s.drawn)⟩ rfl rfl hl.1 rfl (lv_room (Nat.le_of_ble_eq_true rfl)) dL_act_27 ⟨(by show _ ≤ 11; omega), (by show _ ≤ 73; omega)⟩) hS (fun q _ h => hFc q h) hFc (fun rl u9 t9 H1 locs ht9 hv9 hw hB9 hz9 hk9 hS => ?_)
    obtain ⟨⟩ := u9
    obtain ⟨hP1, hD1⟩ := hB9
    rw [ht9] at hP1
    obtain ⟨hP, hD⟩ := va_joinQ (wr := [((ad 0), .inr (3, [.ref (ad 1), .ref (ad 2), .int (nI (uN u))])), ((ad 2), aF q 6 (fun j => if j < uN u then some (uO u j) else none)), ((ad 1), .inr (1, [.ref (ad 3), .ref (ad 4), .ref (ad 5), .ref (ad 6), .ref (ad 7), .double (uM u), .int (nI (uT u))])), ((ad 3), aI q 8 (uP u)), ((ad 4), aD q 8 (fun i => FP.i2d (uX u i))), ((ad 5), aD q 16 (fun i => FP.i2d (uA u i))), ((ad 6), aD q 16 (fun i => FP.i2d (uB u i))), ((ad 7), aD q 16 (uF u))]) (w1 := []) hP hD [] [0, 1, 2, 3, 4, 5, 6, 7] rfl rfl (by decide) (by decide) hk9 hFc hP1 hD1
    generalize H1 = H at hP hS ⊢
    have hP : va_P G vwCl ([((ad 0), .inr (3, [.ref (ad 1), .ref (ad 2), .int (nI (uN u))])), ((ad 2), aF q 6 (fun j => if j < uN u then some (uO u j) else none)), ((ad 1), .inr (1, [.ref (ad 3), .ref (ad 4), .ref (ad 5), .ref (ad 6), .ref (ad 7), .double (uM u), .int (nI (uT u))])), ((ad 3), aI q 8 (uP u)), ((ad 4), aD q 8 (fun i => FP.i2d (uX u i))), ((ad 5), aD q 16 (fun i => FP.i2d (uA u i))), ((ad 6), aD q 16 (fun i => FP.i2d (uB u i))), ((ad 7), aD q 16 (uF u))] ++ TW (uN u) (WQ q (uC u))) H := hP
    have hD : va_D A ([((ad 0), .inr (3, [.ref (ad 1), .ref (ad 2), .int (nI (uN u))])), ((ad 2), aF q 6 (fun j => if j < uN u then some (uO u j) else none)), ((ad 1), .inr (1, [.ref (ad 3), .ref (ad 4), .ref (ad 5), .ref (ad 6), .ref (ad 7), .double (uM u), .int (nI (uT u))])), ((ad 3), aI q 8 (uP u)), ((ad 4), aD q 8 (fun i => FP.i2d (uX u i))), ((ad 5), aD q 16 (fun i => FP.i2d (uA u i))), ((ad 6), aD q 16 (fun i => FP.i2d (uB u i))), ((ad 7), aD q 16 (uF u))] ++ TW (uN u) (WQ q (uC u))) := hD
    try dsimp only at hw
    subst hw
    refine lv_iconst (v := 1) hx hb dL_act_30 (by decide) ?_
    refine lv_isub hx hb dL_act_31 ?_
    refine lv_topi (fun x5 ex5 => ?_)
    obtain rfl : x5 = ((lowV (v >>> (5 &&& 31)) 9) - 1) := ex5
    refine lv_goto (tgt := 42) hx hb dL_act_32 (by decide) ?_
    refine lv_istore_n (lv' := [(3, .int ((lowV (v >>> (5 &&& 31)) 9) - 1)), (2, .int 1), (0, .ref (ad 0)), (1, .int v)]) hx hb dL_act_42 rfl hl (by decide) rfl (fun ls hl => ?_)
    refine lv_iload_n hx hb dL_act_43 rfl (lv_at hl 1 rfl) ?_
    refine lv_if_eq (tgt := 61) hx hb dL_act_44 (by decide) (fun h => absurd h (by decide)) (fun _ => ?_)
    refine lv_iload_n hx hb dL_act_47 rfl (lv_at hl 3 rfl) ?_
    refine lv_bipush (v := 8) hx hb dL_act_48 (by decide) ?_
    refine lv_ishr hx hb dL_act_50 ?_
    refine lv_bipush (v := 11) hx hb dL_act_51 (by decide) ?_
    have hPc := hP.sub (ws' := []) [] rfl
    have hDc := hD.sub (ws' := []) [] (by decide) rfl
    have hFc := va_free (wc := []) hD hS hA [] rfl
    refine va_calli (va_runS (As := [.int (v >>> (8 &&& 31)), .int 11]) (rest := []) ⟨hx, hb, hml, hown, (dr_words hts s.drawn)⟩ (m_L_low l G q H.size (v >>> (8 &&& 31)) 11 (by decide)) (va_cwS 2 (dr_words hts s.drawn) gL_act_L_low rfl rfl rfl (by decide +kernel) ⟨Nat.le_of_ble_eq_true rfl, Nat.le_of_ble_eq_true rfl⟩) ⟨preW_blind, preW_start (s := s.setDrawn s.drawn) hPc hK hDc (hNF.drawn s.drawn)⟩ rfl rfl hl.1 rfl (lv_room (Nat.le_of_ble_eq_true rfl)) dL_act_53 ⟨(by show _ ≤ 11; omega), (by show _ ≤ 73; omega)⟩) hS (fun q _ h => hFc q h) hFc (fun rl u9 t9 H1 locs ht9 hv9 hw hB9 hz9 hk9 hS => ?_)
    obtain ⟨⟩ := u9
    obtain ⟨hP1, hD1⟩ := hB9
    rw [ht9] at hP1
    obtain ⟨hP, hD⟩ := va_joinQ (wr := [((ad 0), .inr (3, [.ref (ad 1), .ref (ad 2), .int (nI (uN u))])), ((ad 2), aF q 6 (fun j => if j < uN u then some (uO u j) else none)), ((ad 1), .inr (1, [.ref (ad 3), .ref (ad 4), .ref (ad 5), .ref (ad 6), .ref (ad 7), .double (uM u), .int (nI (uT u))])), ((ad 3), aI q 8 (uP u)), ((ad 4), aD q 8 (fun i => FP.i2d (uX u i))), ((ad 5), aD q 16 (fun i => FP.i2d (uA u i))), ((ad 6), aD q 16 (fun i => FP.i2d (uB u i))), ((ad 7), aD q 16 (uF u))]) (w1 := []) hP hD [] [0, 1, 2, 3, 4, 5, 6, 7] rfl rfl (by decide) (by decide) hk9 hFc hP1 hD1
    generalize H1 = H at hP hS ⊢
    have hP : va_P G vwCl ([((ad 0), .inr (3, [.ref (ad 1), .ref (ad 2), .int (nI (uN u))])), ((ad 2), aF q 6 (fun j => if j < uN u then some (uO u j) else none)), ((ad 1), .inr (1, [.ref (ad 3), .ref (ad 4), .ref (ad 5), .ref (ad 6), .ref (ad 7), .double (uM u), .int (nI (uT u))])), ((ad 3), aI q 8 (uP u)), ((ad 4), aD q 8 (fun i => FP.i2d (uX u i))), ((ad 5), aD q 16 (fun i => FP.i2d (uA u i))), ((ad 6), aD q 16 (fun i => FP.i2d (uB u i))), ((ad 7), aD q 16 (uF u))] ++ TW (uN u) (WQ q (uC u))) H := hP
    have hD : va_D A ([((ad 0), .inr (3, [.ref (ad 1), .ref (ad 2), .int (nI (uN u))])), ((ad 2), aF q 6 (fun j => if j < uN u then some (uO u j) else none)), ((ad 1), .inr (1, [.ref (ad 3), .ref (ad 4), .ref (ad 5), .ref (ad 6), .ref (ad 7), .double (uM u), .int (nI (uT u))])), ((ad 3), aI q 8 (uP u)), ((ad 4), aD q 8 (fun i => FP.i2d (uX u i))), ((ad 5), aD q 16 (fun i => FP.i2d (uA u i))), ((ad 6), aD q 16 (fun i => FP.i2d (uB u i))), ((ad 7), aD q 16 (uF u))] ++ TW (uN u) (WQ q (uC u))) := hD
    try dsimp only at hw
    subst hw
    refine lv_iconst (v := 1) hx hb dL_act_56 (by decide) ?_
    refine lv_isub hx hb dL_act_57 ?_
    refine lv_topi (fun x8 ex8 => ?_)
    obtain rfl : x8 = ((lowV (v >>> (8 &&& 31)) 11) - 1) := ex8
    refine lv_goto (tgt := 69) hx hb dL_act_58 (by decide) ?_
    refine lv_istore (lv' := [(4, .int ((lowV (v >>> (8 &&& 31)) 11) - 1)), (3, .int ((lowV (v >>> (5 &&& 31)) 9) - 1)), (2, .int 1), (0, .ref (ad 0)), (1, .int v)]) hx hb dL_act_69 hl (by decide) rfl (fun ls hl => ?_)
    refine lv_iload_n hx hb dL_act_71 rfl (lv_at hl 2 rfl) ?_
    refine lv_if_eq (tgt := 82) hx hb dL_act_72 (by decide) (fun h => absurd h (by decide)) (fun _ => ?_)
    refine lv_iload_n hx hb dL_act_75 rfl (lv_at hl 4 rfl) ?_
    refine lv_bipush (v := 9) hx hb dL_act_76 (by decide) ?_
    refine lv_ishr hx hb dL_act_78 ?_
    refine lv_goto (tgt := 96) hx hb dL_act_79 (by decide) ?_
    refine lv_istore (lv' := [(5, .int (v >>> (9 &&& 31))), (4, .int ((lowV (v >>> (8 &&& 31)) 11) - 1)), (3, .int ((lowV (v >>> (5 &&& 31)) 9) - 1)), (2, .int 1), (0, .ref (ad 0)), (1, .int v)]) hx hb dL_act_96 hl (by decide) rfl (fun ls hl => ?_)
    refine lv_iload_n hx hb dL_act_98 rfl (lv_at hl 3 rfl) ?_
    refine lv_if_eq (tgt := 116) hx hb dL_act_99 (by decide) (fun h => absurd h (by decide)) (fun _ => ?_)
    refine lv_iload_n hx hb dL_act_102 rfl (lv_at hl 5 rfl) ?_
    refine lv_bipush (v := 11) hx hb dL_act_103 (by decide) ?_
    refine lv_ishr hx hb dL_act_105 ?_
    refine lv_bipush (v := 7) hx hb dL_act_106 (by decide) ?_
    have hPc := hP.sub (ws' := []) [] rfl
    have hDc := hD.sub (ws' := []) [] (by decide) rfl
    have hFc := va_free (wc := []) hD hS hA [] rfl
    refine va_calli (va_runS (As := [.int (v >>> (11 &&& 31)), .int 7]) (rest := []) ⟨hx, hb, hml, hown, (dr_words hts s.drawn)⟩ (m_L_low l G q H.size (v >>> (11 &&& 31)) 7 (by decide)) (va_cwS 2 (dr_words hts s.drawn) gL_act_L_low rfl rfl rfl (by decide +kernel) ⟨Nat.le_of_ble_eq_true rfl, Nat.le_of_ble_eq_true rfl⟩) ⟨preW_blind, preW_start (s := s.setDrawn s.drawn) hPc hK hDc (hNF.drawn s.drawn)⟩ rfl rfl hl.1 rfl (lv_room (Nat.le_of_ble_eq_true rfl)) dL_act_108 ⟨(by show _ ≤ 11; omega), (by show _ ≤ 73; omega)⟩) hS (fun q _ h => hFc q h) hFc (fun rl u9 t9 H1 locs ht9 hv9 hw hB9 hz9 hk9 hS => ?_)
    obtain ⟨⟩ := u9
    obtain ⟨hP1, hD1⟩ := hB9
    rw [ht9] at hP1
    obtain ⟨hP, hD⟩ := va_joinQ (wr := [((ad 0), .inr (3, [.ref (ad 1), .ref (ad 2), .int (nI (uN u))])), ((ad 2), aF q 6 (fun j => if j < uN u then some (uO u j) else none)), ((ad 1), .inr (1, [.ref (ad 3), .ref (ad 4), .ref (ad 5), .ref (ad 6), .ref (ad 7), .double (uM u), .int (nI (uT u))])), ((ad 3), aI q 8 (uP u)), ((ad 4), aD q 8 (fun i => FP.i2d (uX u i))), ((ad 5), aD q 16 (fun i => FP.i2d (uA u i))), ((ad 6), aD q 16 (fun i => FP.i2d (uB u i))), ((ad 7), aD q 16 (uF u))]) (w1 := []) hP hD [] [0, 1, 2, 3, 4, 5, 6, 7] rfl rfl (by decide) (by decide) hk9 hFc hP1 hD1
    generalize H1 = H at hP hS ⊢
    have hP : va_P G vwCl ([((ad 0), .inr (3, [.ref (ad 1), .ref (ad 2), .int (nI (uN u))])), ((ad 2), aF q 6 (fun j => if j < uN u then some (uO u j) else none)), ((ad 1), .inr (1, [.ref (ad 3), .ref (ad 4), .ref (ad 5), .ref (ad 6), .ref (ad 7), .double (uM u), .int (nI (uT u))])), ((ad 3), aI q 8 (uP u)), ((ad 4), aD q 8 (fun i => FP.i2d (uX u i))), ((ad 5), aD q 16 (fun i => FP.i2d (uA u i))), ((ad 6), aD q 16 (fun i => FP.i2d (uB u i))), ((ad 7), aD q 16 (uF u))] ++ TW (uN u) (WQ q (uC u))) H := hP
    have hD : va_D A ([((ad 0), .inr (3, [.ref (ad 1), .ref (ad 2), .int (nI (uN u))])), ((ad 2), aF q 6 (fun j => if j < uN u then some (uO u j) else none)), ((ad 1), .inr (1, [.ref (ad 3), .ref (ad 4), .ref (ad 5), .ref (ad 6), .ref (ad 7), .double (uM u), .int (nI (uT u))])), ((ad 3), aI q 8 (uP u)), ((ad 4), aD q 8 (fun i => FP.i2d (uX u i))), ((ad 5), aD q 16 (fun i => FP.i2d (uA u i))), ((ad 6), aD q 16 (fun i => FP.i2d (uB u i))), ((ad 7), aD q 16 (uF u))] ++ TW (uN u) (WQ q (uC u))) := hD
    try dsimp only at hw
    subst hw
    refine lv_iconst (v := 1) hx hb dL_act_111 (by decide) ?_
    refine lv_isub hx hb dL_act_112 ?_
    refine lv_topi (fun x12 ex12 => ?_)
    obtain rfl : x12 = ((lowV (v >>> (11 &&& 31)) 7) - 1) := ex12
    refine lv_goto (tgt := 124) hx hb dL_act_113 (by decide) ?_
    refine lv_istore (lv' := [(6, .int ((lowV (v >>> (11 &&& 31)) 7) - 1)), (5, .int (v >>> (9 &&& 31))), (4, .int ((lowV (v >>> (8 &&& 31)) 11) - 1)), (3, .int ((lowV (v >>> (5 &&& 31)) 9) - 1)), (2, .int 1), (0, .ref (ad 0)), (1, .int v)]) hx hb dL_act_124 hl (by decide) rfl (fun ls hl => ?_)
    refine lv_iload_n hx hb dL_act_126 rfl (lv_at hl 6 rfl) ?_
    refine lv_bipush (v := 26) hx hb dL_act_127 (by decide) ?_
    have hPc := hP.sub (ws' := []) [] rfl
    have hDc := hD.sub (ws' := []) [] (by decide) rfl
    have hFc := va_free (wc := []) hD hS hA [] rfl
    refine va_calli (va_runS (As := [.int v, .int 26]) (rest := []) ⟨hx, hb, hml, hown, (dr_words hts s.drawn)⟩ (m_L_low l G q H.size v 26 (by decide)) (va_cwS 2 (dr_words hts s.drawn) gL_act_L_low rfl rfl rfl (by decide +kernel) ⟨Nat.le_of_ble_eq_true rfl, Nat.le_of_ble_eq_true rfl⟩) ⟨preW_blind, preW_start (s := s.setDrawn s.drawn) hPc hK hDc (hNF.drawn s.drawn)⟩ rfl rfl hl.1 rfl (lv_room (Nat.le_of_ble_eq_true rfl)) dL_act_129 ⟨(by show _ ≤ 11; omega), (by show _ ≤ 73; omega)⟩) hS (fun q _ h => hFc q h) hFc (fun cs u9 t9 H1 locs ht9 hv9 hw hB9 hz9 hk9 hS => ?_)
    obtain ⟨⟩ := u9
    obtain ⟨hP1, hD1⟩ := hB9
    rw [ht9] at hP1
    obtain ⟨hP, hD⟩ := va_joinQ (wr := [((ad 0), .inr (3, [.ref (ad 1), .ref (ad 2), .int (nI (uN u))])), ((ad 2), aF q 6 (fun j => if j < uN u then some (uO u j) else none)), ((ad 1), .inr (1, [.ref (ad 3), .ref (ad 4), .ref (ad 5), .ref (ad 6), .ref (ad 7), .double (uM u), .int (nI (uT u))])), ((ad 3), aI q 8 (uP u)), ((ad 4), aD q 8 (fun i => FP.i2d (uX u i))), ((ad 5), aD q 16 (fun i => FP.i2d (uA u i))), ((ad 6), aD q 16 (fun i => FP.i2d (uB u i))), ((ad 7), aD q 16 (uF u))]) (w1 := []) hP hD [] [0, 1, 2, 3, 4, 5, 6, 7] rfl rfl (by decide) (by decide) hk9 hFc hP1 hD1
    generalize H1 = H at hP hS ⊢
    have hP : va_P G vwCl ([((ad 0), .inr (3, [.ref (ad 1), .ref (ad 2), .int (nI (uN u))])), ((ad 2), aF q 6 (fun j => if j < uN u then some (uO u j) else none)), ((ad 1), .inr (1, [.ref (ad 3), .ref (ad 4), .ref (ad 5), .ref (ad 6), .ref (ad 7), .double (uM u), .int (nI (uT u))])), ((ad 3), aI q 8 (uP u)), ((ad 4), aD q 8 (fun i => FP.i2d (uX u i))), ((ad 5), aD q 16 (fun i => FP.i2d (uA u i))), ((ad 6), aD q 16 (fun i => FP.i2d (uB u i))), ((ad 7), aD q 16 (uF u))] ++ TW (uN u) (WQ q (uC u))) H := hP
    have hD : va_D A ([((ad 0), .inr (3, [.ref (ad 1), .ref (ad 2), .int (nI (uN u))])), ((ad 2), aF q 6 (fun j => if j < uN u then some (uO u j) else none)), ((ad 1), .inr (1, [.ref (ad 3), .ref (ad 4), .ref (ad 5), .ref (ad 6), .ref (ad 7), .double (uM u), .int (nI (uT u))])), ((ad 3), aI q 8 (uP u)), ((ad 4), aD q 8 (fun i => FP.i2d (uX u i))), ((ad 5), aD q 16 (fun i => FP.i2d (uA u i))), ((ad 6), aD q 16 (fun i => FP.i2d (uB u i))), ((ad 7), aD q 16 (uF u))] ++ TW (uN u) (WQ q (uC u))) := hD
    have hcs : cs = lowV v 26 := hw
    by_cases hout : cs.toInt < 0 ∨ 24 < cs.toInt
    · skip
      refine lv_tableOut (tgt := 610) hx hb dL_act_132 hout (by decide) ?_
      refine lv_aload_n hx hb dL_act_610 rfl (lv_at hl 5 rfl) ?_
      refine lv_iload_n hx hb dL_act_611 rfl (lv_at hl 3 rfl) ?_
      refine lv_iload_n hx hb dL_act_612 rfl (lv_at hl 4 rfl) ?_
      refine lv_if_eq (tgt := 621) hx hb dL_act_613 (by decide) (fun h => absurd h (by decide)) (fun _ => ?_)
      refine lv_iload hx hb dL_act_616 (lv_at hl 1 rfl) ?_
      refine lv_goto (tgt := 629) hx hb dL_act_618 (by decide) ?_
      have hPc := hP.part (cx := [((ad 0), .inr (3, [.ref (ad 1), .ref (ad 2), .int (nI (uN u))])), ((ad 2), aF q 6 (fun j => if j < uN u then some (uO u j) else none)), ((ad 1), .inr (1, [.ref (ad 3), .ref (ad 4), .ref (ad 5), .ref (ad 6), .ref (ad 7), .double (uM u), .int (nI (uT u))])), ((ad 3), aI q 8 (uP u)), ((ad 4), aD q 8 (fun i => FP.i2d (uX u i))), ((ad 5), aD q 16 (fun i => FP.i2d (uA u i))), ((ad 6), aD q 16 (fun i => FP.i2d (uB u i))), ((ad 7), aD q 16 (uF u))]) [0, 1, 2, 3, 4, 5, 6, 7] rfl
      have hDc := hD.part (cx := [((ad 0), .inr (3, [.ref (ad 1), .ref (ad 2), .int (nI (uN u))])), ((ad 2), aF q 6 (fun j => if j < uN u then some (uO u j) else none)), ((ad 1), .inr (1, [.ref (ad 3), .ref (ad 4), .ref (ad 5), .ref (ad 6), .ref (ad 7), .double (uM u), .int (nI (uT u))])), ((ad 3), aI q 8 (uP u)), ((ad 4), aD q 8 (fun i => FP.i2d (uX u i))), ((ad 5), aD q 16 (fun i => FP.i2d (uA u i))), ((ad 6), aD q 16 (fun i => FP.i2d (uB u i))), ((ad 7), aD q 16 (uF u))]) [0, 1, 2, 3, 4, 5, 6, 7] (by decide) rfl
      have hFc := va_freeP (cx := [((ad 0), .inr (3, [.ref (ad 1), .ref (ad 2), .int (nI (uN u))])), ((ad 2), aF q 6 (fun j => if j < uN u then some (uO u j) else none)), ((ad 1), .inr (1, [.ref (ad 3), .ref (ad 4), .ref (ad 5), .ref (ad 6), .ref (ad 7), .double (uM u), .int (nI (uT u))])), ((ad 3), aI q 8 (uP u)), ((ad 4), aD q 8 (fun i => FP.i2d (uX u i))), ((ad 5), aD q 16 (fun i => FP.i2d (uA u i))), ((ad 6), aD q 16 (fun i => FP.i2d (uB u i))), ((ad 7), aD q 16 (uF u))]) hD hS hA [0, 1, 2, 3, 4, 5, 6, 7] rfl
      refine va_calllD hd0 (swd_run (As := [.ref (ad 0), .int ((lowV (v >>> (5 &&& 31)) 9) - 1), .int (v >>> (9 &&& 31))]) (rest := []) ⟨hx, hb, hml, hown, (dr_words hts s.drawn)⟩ (h_count hst ((lowV (v >>> (5 &&& 31)) 9) - 1) (v >>> (9 &&& 31)) G q H.size ad V u hu) (vx_cwSW 3 (dr_words hts s.drawn) gL_act_L_count rfl rfl rfl (by decide +kernel) ⟨Nat.le_of_ble_eq_true rfl, Nat.le_of_ble_eq_true rfl⟩) ⟨preY_blind, preY_start (s := s.setDrawn s.drawn) hPc hK hDc (hNF.drawn s.drawn) (hNT.drawn s.drawn) (hNC.drawn s.drawn) hS (fun q h => hFc q h)⟩ rfl rfl hl.1 rfl (lv_room (Nat.le_of_ble_eq_true rfl)) dL_act_629 ⟨(by show _ ≤ 11; omega), (by show _ ≤ 73; omega)⟩) hS (fun q _ h => hFc q h) hFc (fun r1 u9 t9 H1 locs ht9 hv99 hw hB9 hz9 hk9 hS du15 hu15 => ?_)
      obtain ⟨u1, rfl⟩ : ∃ z, z = u9 := ⟨_, rfl⟩
      obtain ⟨hP1, hD1⟩ := hB9
      rw [ht9] at hP1
      obtain ⟨hP, hD⟩ := va_joinP (wr := []) (rx := [((ad 0), .inr (3, [.ref (ad 1), .ref (ad 2), .int (nI (uN u1))])), ((ad 2), aF q 6 (fun j => if j < uN u1 then some (uO u1 j) else none)), ((ad 1), .inr (1, [.ref (ad 3), .ref (ad 4), .ref (ad 5), .ref (ad 6), .ref (ad 7), .double (uM u1), .int (nI (uT u1))])), ((ad 3), aI q 8 (uP u1)), ((ad 4), aD q 8 (fun i => FP.i2d (uX u1 i))), ((ad 5), aD q 16 (fun i => FP.i2d (uA u1 i))), ((ad 6), aD q 16 (fun i => FP.i2d (uB u1 i))), ((ad 7), aD q 16 (uF u1))]) (pl1 := TW (uN u1) (WQ q (uC u1))) hP hD [0, 1, 2, 3, 4, 5, 6, 7] [] rfl rfl (by decide) (by decide) hk9 hFc hP1 hD1
      generalize H1 = H at hP hS ⊢
      have hP : va_P G vwCl ([((ad 0), .inr (3, [.ref (ad 1), .ref (ad 2), .int (nI (uN u1))])), ((ad 2), aF q 6 (fun j => if j < uN u1 then some (uO u1 j) else none)), ((ad 1), .inr (1, [.ref (ad 3), .ref (ad 4), .ref (ad 5), .ref (ad 6), .ref (ad 7), .double (uM u1), .int (nI (uT u1))])), ((ad 3), aI q 8 (uP u1)), ((ad 4), aD q 8 (fun i => FP.i2d (uX u1 i))), ((ad 5), aD q 16 (fun i => FP.i2d (uA u1 i))), ((ad 6), aD q 16 (fun i => FP.i2d (uB u1 i))), ((ad 7), aD q 16 (uF u1))] ++ TW (uN u1) (WQ q (uC u1))) H := hP
      have hD : va_D A ([((ad 0), .inr (3, [.ref (ad 1), .ref (ad 2), .int (nI (uN u1))])), ((ad 2), aF q 6 (fun j => if j < uN u1 then some (uO u1 j) else none)), ((ad 1), .inr (1, [.ref (ad 3), .ref (ad 4), .ref (ad 5), .ref (ad 6), .ref (ad 7), .double (uM u1), .int (nI (uT u1))])), ((ad 3), aI q 8 (uP u1)), ((ad 4), aD q 8 (fun i => FP.i2d (uX u1 i))), ((ad 5), aD q 16 (fun i => FP.i2d (uA u1 i))), ((ad 6), aD q 16 (fun i => FP.i2d (uB u1 i))), ((ad 7), aD q 16 (uF u1))] ++ TW (uN u1) (WQ q (uC u1))) := hD
      have hA : vAct v V = vCount ((lowV (v >>> (5 &&& 31)) 9) - 1) (v >>> (9 &&& 31)) V := by unfold vAct; rw [if_pos hcnd1]; unfold actO; rw [← hcs]; rw [selV_out hout]
      rw [← hA] at hw
      refine W.widen (k := 11) (n := 73) (Nat.le_of_ble_eq_true rfl) (Nat.le_of_ble_eq_true rfl) ?_
      have hP9 := hP
      have hD9 := hD
      refine W.endD hu15 ?_
      exact W.lret (v := r1) hx hb hr (fun t ht hW => ⟨⟨r1, u1, rfl, hw, by rw [ht]; exact hP9, hD9⟩, hS.F ht⟩) hS.2.2 dL_act_632
    rcases in_24 hout with rfl | rfl | rfl | rfl | rfl | rfl | rfl | rfl | rfl | rfl | rfl | rfl | rfl | rfl | rfl | rfl | rfl | rfl | rfl | rfl | rfl | rfl | rfl | rfl | rfl
    · skip
      refine lv_tableIn (off := 116) (tgt := 248) hx hb dL_act_132 (by decide) (by decide) (by decide) (by decide) ?_
      refine lv_aload_n hx hb dL_act_248 rfl (lv_at hl 5 rfl) ?_
      refine lv_iload hx hb dL_act_249 (lv_at hl 2 rfl) ?_
      refine lv_iload hx hb dL_act_251 (lv_at hl 1 rfl) ?_
      have hPc := hP.part (cx := [((ad 0), .inr (3, [.ref (ad 1), .ref (ad 2), .int (nI (uN u))])), ((ad 2), aF q 6 (fun j => if j < uN u then some (uO u j) else none)), ((ad 1), .inr (1, [.ref (ad 3), .ref (ad 4), .ref (ad 5), .ref (ad 6), .ref (ad 7), .double (uM u), .int (nI (uT u))])), ((ad 3), aI q 8 (uP u)), ((ad 4), aD q 8 (fun i => FP.i2d (uX u i))), ((ad 5), aD q 16 (fun i => FP.i2d (uA u i))), ((ad 6), aD q 16 (fun i => FP.i2d (uB u i))), ((ad 7), aD q 16 (uF u))]) [0, 1, 2, 3, 4, 5, 6, 7] rfl
      have hDc := hD.part (cx := [((ad 0), .inr (3, [.ref (ad 1), .ref (ad 2), .int (nI (uN u))])), ((ad 2), aF q 6 (fun j => if j < uN u then some (uO u j) else none)), ((ad 1), .inr (1, [.ref (ad 3), .ref (ad 4), .ref (ad 5), .ref (ad 6), .ref (ad 7), .double (uM u), .int (nI (uT u))])), ((ad 3), aI q 8 (uP u)), ((ad 4), aD q 8 (fun i => FP.i2d (uX u i))), ((ad 5), aD q 16 (fun i => FP.i2d (uA u i))), ((ad 6), aD q 16 (fun i => FP.i2d (uB u i))), ((ad 7), aD q 16 (uF u))]) [0, 1, 2, 3, 4, 5, 6, 7] (by decide) rfl
      have hFc := va_freeP (cx := [((ad 0), .inr (3, [.ref (ad 1), .ref (ad 2), .int (nI (uN u))])), ((ad 2), aF q 6 (fun j => if j < uN u then some (uO u j) else none)), ((ad 1), .inr (1, [.ref (ad 3), .ref (ad 4), .ref (ad 5), .ref (ad 6), .ref (ad 7), .double (uM u), .int (nI (uT u))])), ((ad 3), aI q 8 (uP u)), ((ad 4), aD q 8 (fun i => FP.i2d (uX u i))), ((ad 5), aD q 16 (fun i => FP.i2d (uA u i))), ((ad 6), aD q 16 (fun i => FP.i2d (uB u i))), ((ad 7), aD q 16 (uF u))]) hD hS hA [0, 1, 2, 3, 4, 5, 6, 7] rfl
      refine va_calllD hd0 (swd_run (As := [.ref (ad 0), .int ((lowV (v >>> (8 &&& 31)) 11) - 1), .int (v >>> (9 &&& 31))]) (rest := []) ⟨hx, hb, hml, hown, (dr_words hts s.drawn)⟩ (h_path hst ((lowV (v >>> (8 &&& 31)) 11) - 1) (v >>> (9 &&& 31)) G q H.size ad V u hu) (vx_cwSW 3 (dr_words hts s.drawn) gL_act_L_path rfl rfl rfl (by decide +kernel) ⟨Nat.le_of_ble_eq_true rfl, Nat.le_of_ble_eq_true rfl⟩) ⟨preY_blind, preY_start (s := s.setDrawn s.drawn) hPc hK hDc (hNF.drawn s.drawn) (hNT.drawn s.drawn) (hNC.drawn s.drawn) hS (fun q h => hFc q h)⟩ rfl rfl hl.1 rfl (lv_room (Nat.le_of_ble_eq_true rfl)) dL_act_253 ⟨(by show _ ≤ 11; omega), (by show _ ≤ 73; omega)⟩) hS (fun q _ h => hFc q h) hFc (fun r1 u9 t9 H1 locs ht9 hv99 hw hB9 hz9 hk9 hS du16 hu16 => ?_)
      obtain ⟨u1, rfl⟩ : ∃ z, z = u9 := ⟨_, rfl⟩
      obtain ⟨hP1, hD1⟩ := hB9
      rw [ht9] at hP1
      obtain ⟨hP, hD⟩ := va_joinP (wr := []) (rx := [((ad 0), .inr (3, [.ref (ad 1), .ref (ad 2), .int (nI (uN u1))])), ((ad 2), aF q 6 (fun j => if j < uN u1 then some (uO u1 j) else none)), ((ad 1), .inr (1, [.ref (ad 3), .ref (ad 4), .ref (ad 5), .ref (ad 6), .ref (ad 7), .double (uM u1), .int (nI (uT u1))])), ((ad 3), aI q 8 (uP u1)), ((ad 4), aD q 8 (fun i => FP.i2d (uX u1 i))), ((ad 5), aD q 16 (fun i => FP.i2d (uA u1 i))), ((ad 6), aD q 16 (fun i => FP.i2d (uB u1 i))), ((ad 7), aD q 16 (uF u1))]) (pl1 := TW (uN u1) (WQ q (uC u1))) hP hD [0, 1, 2, 3, 4, 5, 6, 7] [] rfl rfl (by decide) (by decide) hk9 hFc hP1 hD1
      generalize H1 = H at hP hS ⊢
      have hP : va_P G vwCl ([((ad 0), .inr (3, [.ref (ad 1), .ref (ad 2), .int (nI (uN u1))])), ((ad 2), aF q 6 (fun j => if j < uN u1 then some (uO u1 j) else none)), ((ad 1), .inr (1, [.ref (ad 3), .ref (ad 4), .ref (ad 5), .ref (ad 6), .ref (ad 7), .double (uM u1), .int (nI (uT u1))])), ((ad 3), aI q 8 (uP u1)), ((ad 4), aD q 8 (fun i => FP.i2d (uX u1 i))), ((ad 5), aD q 16 (fun i => FP.i2d (uA u1 i))), ((ad 6), aD q 16 (fun i => FP.i2d (uB u1 i))), ((ad 7), aD q 16 (uF u1))] ++ TW (uN u1) (WQ q (uC u1))) H := hP
      have hD : va_D A ([((ad 0), .inr (3, [.ref (ad 1), .ref (ad 2), .int (nI (uN u1))])), ((ad 2), aF q 6 (fun j => if j < uN u1 then some (uO u1 j) else none)), ((ad 1), .inr (1, [.ref (ad 3), .ref (ad 4), .ref (ad 5), .ref (ad 6), .ref (ad 7), .double (uM u1), .int (nI (uT u1))])), ((ad 3), aI q 8 (uP u1)), ((ad 4), aD q 8 (fun i => FP.i2d (uX u1 i))), ((ad 5), aD q 16 (fun i => FP.i2d (uA u1 i))), ((ad 6), aD q 16 (fun i => FP.i2d (uB u1 i))), ((ad 7), aD q 16 (uF u1))] ++ TW (uN u1) (WQ q (uC u1))) := hD
      have hA : vAct v V = vPath ((lowV (v >>> (8 &&& 31)) 11) - 1) (v >>> (9 &&& 31)) V := by unfold vAct; rw [if_pos hcnd1]; unfold actO; rw [← hcs]; rw [selV_0]
      rw [← hA] at hw
      refine W.widen (k := 11) (n := 73) (Nat.le_of_ble_eq_true rfl) (Nat.le_of_ble_eq_true rfl) ?_
      have hP9 := hP
      have hD9 := hD
      refine W.endD hu16 ?_
      exact W.lret (v := r1) hx hb hr (fun t ht hW => ⟨⟨r1, u1, rfl, hw, by rw [ht]; exact hP9, hD9⟩, hS.F ht⟩) hS.2.2 dL_act_256
    · skip
      refine lv_tableIn (off := 116) (tgt := 248) hx hb dL_act_132 (by decide) (by decide) (by decide) (by decide) ?_
      refine lv_aload_n hx hb dL_act_248 rfl (lv_at hl 5 rfl) ?_
      refine lv_iload hx hb dL_act_249 (lv_at hl 2 rfl) ?_
      refine lv_iload hx hb dL_act_251 (lv_at hl 1 rfl) ?_
      have hPc := hP.part (cx := [((ad 0), .inr (3, [.ref (ad 1), .ref (ad 2), .int (nI (uN u))])), ((ad 2), aF q 6 (fun j => if j < uN u then some (uO u j) else none)), ((ad 1), .inr (1, [.ref (ad 3), .ref (ad 4), .ref (ad 5), .ref (ad 6), .ref (ad 7), .double (uM u), .int (nI (uT u))])), ((ad 3), aI q 8 (uP u)), ((ad 4), aD q 8 (fun i => FP.i2d (uX u i))), ((ad 5), aD q 16 (fun i => FP.i2d (uA u i))), ((ad 6), aD q 16 (fun i => FP.i2d (uB u i))), ((ad 7), aD q 16 (uF u))]) [0, 1, 2, 3, 4, 5, 6, 7] rfl
      have hDc := hD.part (cx := [((ad 0), .inr (3, [.ref (ad 1), .ref (ad 2), .int (nI (uN u))])), ((ad 2), aF q 6 (fun j => if j < uN u then some (uO u j) else none)), ((ad 1), .inr (1, [.ref (ad 3), .ref (ad 4), .ref (ad 5), .ref (ad 6), .ref (ad 7), .double (uM u), .int (nI (uT u))])), ((ad 3), aI q 8 (uP u)), ((ad 4), aD q 8 (fun i => FP.i2d (uX u i))), ((ad 5), aD q 16 (fun i => FP.i2d (uA u i))), ((ad 6), aD q 16 (fun i => FP.i2d (uB u i))), ((ad 7), aD q 16 (uF u))]) [0, 1, 2, 3, 4, 5, 6, 7] (by decide) rfl
      have hFc := va_freeP (cx := [((ad 0), .inr (3, [.ref (ad 1), .ref (ad 2), .int (nI (uN u))])), ((ad 2), aF q 6 (fun j => if j < uN u then some (uO u j) else none)), ((ad 1), .inr (1, [.ref (ad 3), .ref (ad 4), .ref (ad 5), .ref (ad 6), .ref (ad 7), .double (uM u), .int (nI (uT u))])), ((ad 3), aI q 8 (uP u)), ((ad 4), aD q 8 (fun i => FP.i2d (uX u i))), ((ad 5), aD q 16 (fun i => FP.i2d (uA u i))), ((ad 6), aD q 16 (fun i => FP.i2d (uB u i))), ((ad 7), aD q 16 (uF u))]) hD hS hA [0, 1, 2, 3, 4, 5, 6, 7] rfl
      refine va_calllD hd0 (swd_run (As := [.ref (ad 0), .int ((lowV (v >>> (8 &&& 31)) 11) - 1), .int (v >>> (9 &&& 31))]) (rest := []) ⟨hx, hb, hml, hown, (dr_words hts s.drawn)⟩ (h_path hst ((lowV (v >>> (8 &&& 31)) 11) - 1) (v >>> (9 &&& 31)) G q H.size ad V u hu) (vx_cwSW 3 (dr_words hts s.drawn) gL_act_L_path rfl rfl rfl (by decide +kernel) ⟨Nat.le_of_ble_eq_true rfl, Nat.le_of_ble_eq_true rfl⟩) ⟨preY_blind, preY_start (s := s.setDrawn s.drawn) hPc hK hDc (hNF.drawn s.drawn) (hNT.drawn s.drawn) (hNC.drawn s.drawn) hS (fun q h => hFc q h)⟩ rfl rfl hl.1 rfl (lv_room (Nat.le_of_ble_eq_true rfl)) dL_act_253 ⟨(by show _ ≤ 11; omega), (by show _ ≤ 73; omega)⟩) hS (fun q _ h => hFc q h) hFc (fun r1 u9 t9 H1 locs ht9 hv99 hw hB9 hz9 hk9 hS du17 hu17 => ?_)
      obtain ⟨u1, rfl⟩ : ∃ z, z = u9 := ⟨_, rfl⟩
      obtain ⟨hP1, hD1⟩ := hB9
      rw [ht9] at hP1
      obtain ⟨hP, hD⟩ := va_joinP (wr := []) (rx := [((ad 0), .inr (3, [.ref (ad 1), .ref (ad 2), .int (nI (uN u1))])), ((ad 2), aF q 6 (fun j => if j < uN u1 then some (uO u1 j) else none)), ((ad 1), .inr (1, [.ref (ad 3), .ref (ad 4), .ref (ad 5), .ref (ad 6), .ref (ad 7), .double (uM u1), .int (nI (uT u1))])), ((ad 3), aI q 8 (uP u1)), ((ad 4), aD q 8 (fun i => FP.i2d (uX u1 i))), ((ad 5), aD q 16 (fun i => FP.i2d (uA u1 i))), ((ad 6), aD q 16 (fun i => FP.i2d (uB u1 i))), ((ad 7), aD q 16 (uF u1))]) (pl1 := TW (uN u1) (WQ q (uC u1))) hP hD [0, 1, 2, 3, 4, 5, 6, 7] [] rfl rfl (by decide) (by decide) hk9 hFc hP1 hD1
      generalize H1 = H at hP hS ⊢
      have hP : va_P G vwCl ([((ad 0), .inr (3, [.ref (ad 1), .ref (ad 2), .int (nI (uN u1))])), ((ad 2), aF q 6 (fun j => if j < uN u1 then some (uO u1 j) else none)), ((ad 1), .inr (1, [.ref (ad 3), .ref (ad 4), .ref (ad 5), .ref (ad 6), .ref (ad 7), .double (uM u1), .int (nI (uT u1))])), ((ad 3), aI q 8 (uP u1)), ((ad 4), aD q 8 (fun i => FP.i2d (uX u1 i))), ((ad 5), aD q 16 (fun i => FP.i2d (uA u1 i))), ((ad 6), aD q 16 (fun i => FP.i2d (uB u1 i))), ((ad 7), aD q 16 (uF u1))] ++ TW (uN u1) (WQ q (uC u1))) H := hP
      have hD : va_D A ([((ad 0), .inr (3, [.ref (ad 1), .ref (ad 2), .int (nI (uN u1))])), ((ad 2), aF q 6 (fun j => if j < uN u1 then some (uO u1 j) else none)), ((ad 1), .inr (1, [.ref (ad 3), .ref (ad 4), .ref (ad 5), .ref (ad 6), .ref (ad 7), .double (uM u1), .int (nI (uT u1))])), ((ad 3), aI q 8 (uP u1)), ((ad 4), aD q 8 (fun i => FP.i2d (uX u1 i))), ((ad 5), aD q 16 (fun i => FP.i2d (uA u1 i))), ((ad 6), aD q 16 (fun i => FP.i2d (uB u1 i))), ((ad 7), aD q 16 (uF u1))] ++ TW (uN u1) (WQ q (uC u1))) := hD
      have hA : vAct v V = vPath ((lowV (v >>> (8 &&& 31)) 11) - 1) (v >>> (9 &&& 31)) V := by unfold vAct; rw [if_pos hcnd1]; unfold actO; rw [← hcs]; rw [selV_1]
      rw [← hA] at hw
      refine W.widen (k := 11) (n := 73) (Nat.le_of_ble_eq_true rfl) (Nat.le_of_ble_eq_true rfl) ?_
      have hP9 := hP
      have hD9 := hD
      refine W.endD hu17 ?_
      exact W.lret (v := r1) hx hb hr (fun t ht hW => ⟨⟨r1, u1, rfl, hw, by rw [ht]; exact hP9, hD9⟩, hS.F ht⟩) hS.2.2 dL_act_256
    · skip
      refine lv_tableIn (off := 116) (tgt := 248) hx hb dL_act_132 (by decide) (by decide) (by decide) (by decide) ?_
      refine lv_aload_n hx hb dL_act_248 rfl (lv_at hl 5 rfl) ?_
      refine lv_iload hx hb dL_act_249 (lv_at hl 2 rfl) ?_
      refine lv_iload hx hb dL_act_251 (lv_at hl 1 rfl) ?_
      have hPc := hP.part (cx := [((ad 0), .inr (3, [.ref (ad 1), .ref (ad 2), .int (nI (uN u))])), ((ad 2), aF q 6 (fun j => if j < uN u then some (uO u j) else none)), ((ad 1), .inr (1, [.ref (ad 3), .ref (ad 4), .ref (ad 5), .ref (ad 6), .ref (ad 7), .double (uM u), .int (nI (uT u))])), ((ad 3), aI q 8 (uP u)), ((ad 4), aD q 8 (fun i => FP.i2d (uX u i))), ((ad 5), aD q 16 (fun i => FP.i2d (uA u i))), ((ad 6), aD q 16 (fun i => FP.i2d (uB u i))), ((ad 7), aD q 16 (uF u))]) [0, 1, 2, 3, 4, 5, 6, 7] rfl
      have hDc := hD.part (cx := [((ad 0), .inr (3, [.ref (ad 1), .ref (ad 2), .int (nI (uN u))])), ((ad 2), aF q 6 (fun j => if j < uN u then some (uO u j) else none)), ((ad 1), .inr (1, [.ref (ad 3), .ref (ad 4), .ref (ad 5), .ref (ad 6), .ref (ad 7), .double (uM u), .int (nI (uT u))])), ((ad 3), aI q 8 (uP u)), ((ad 4), aD q 8 (fun i => FP.i2d (uX u i))), ((ad 5), aD q 16 (fun i => FP.i2d (uA u i))), ((ad 6), aD q 16 (fun i => FP.i2d (uB u i))), ((ad 7), aD q 16 (uF u))]) [0, 1, 2, 3, 4, 5, 6, 7] (by decide) rfl
      have hFc := va_freeP (cx := [((ad 0), .inr (3, [.ref (ad 1), .ref (ad 2), .int (nI (uN u))])), ((ad 2), aF q 6 (fun j => if j < uN u then some (uO u j) else none)), ((ad 1), .inr (1, [.ref (ad 3), .ref (ad 4), .ref (ad 5), .ref (ad 6), .ref (ad 7), .double (uM u), .int (nI (uT u))])), ((ad 3), aI q 8 (uP u)), ((ad 4), aD q 8 (fun i => FP.i2d (uX u i))), ((ad 5), aD q 16 (fun i => FP.i2d (uA u i))), ((ad 6), aD q 16 (fun i => FP.i2d (uB u i))), ((ad 7), aD q 16 (uF u))]) hD hS hA [0, 1, 2, 3, 4, 5, 6, 7] rfl
      refine va_calllD hd0 (swd_run (As := [.ref (ad 0), .int ((lowV (v >>> (8 &&& 31)) 11) - 1), .int (v >>> (9 &&& 31))]) (rest := []) ⟨hx, hb, hml, hown, (dr_words hts s.drawn)⟩ (h_path hst ((lowV (v >>> (8 &&& 31)) 11) - 1) (v >>> (9 &&& 31)) G q H.size ad V u hu) (vx_cwSW 3 (dr_words hts s.drawn) gL_act_L_path rfl rfl rfl (by decide +kernel) ⟨Nat.le_of_ble_eq_true rfl, Nat.le_of_ble_eq_true rfl⟩) ⟨preY_blind, preY_start (s := s.setDrawn s.drawn) hPc hK hDc (hNF.drawn s.drawn) (hNT.drawn s.drawn) (hNC.drawn s.drawn) hS (fun q h => hFc q h)⟩ rfl rfl hl.1 rfl (lv_room (Nat.le_of_ble_eq_true rfl)) dL_act_253 ⟨(by show _ ≤ 11; omega), (by show _ ≤ 73; omega)⟩) hS (fun q _ h => hFc q h) hFc (fun r1 u9 t9 H1 locs ht9 hv99 hw hB9 hz9 hk9 hS du18 hu18 => ?_)
      obtain ⟨u1, rfl⟩ : ∃ z, z = u9 := ⟨_, rfl⟩
      obtain ⟨hP1, hD1⟩ := hB9
      rw [ht9] at hP1
      obtain ⟨hP, hD⟩ := va_joinP (wr := []) (rx := [((ad 0), .inr (3, [.ref (ad 1), .ref (ad 2), .int (nI (uN u1))])), ((ad 2), aF q 6 (fun j => if j < uN u1 then some (uO u1 j) else none)), ((ad 1), .inr (1, [.ref (ad 3), .ref (ad 4), .ref (ad 5), .ref (ad 6), .ref (ad 7), .double (uM u1), .int (nI (uT u1))])), ((ad 3), aI q 8 (uP u1)), ((ad 4), aD q 8 (fun i => FP.i2d (uX u1 i))), ((ad 5), aD q 16 (fun i => FP.i2d (uA u1 i))), ((ad 6), aD q 16 (fun i => FP.i2d (uB u1 i))), ((ad 7), aD q 16 (uF u1))]) (pl1 := TW (uN u1) (WQ q (uC u1))) hP hD [0, 1, 2, 3, 4, 5, 6, 7] [] rfl rfl (by decide) (by decide) hk9 hFc hP1 hD1
      generalize H1 = H at hP hS ⊢
      have hP : va_P G vwCl ([((ad 0), .inr (3, [.ref (ad 1), .ref (ad 2), .int (nI (uN u1))])), ((ad 2), aF q 6 (fun j => if j < uN u1 then some (uO u1 j) else none)), ((ad 1), .inr (1, [.ref (ad 3), .ref (ad 4), .ref (ad 5), .ref (ad 6), .ref (ad 7), .double (uM u1), .int (nI (uT u1))])), ((ad 3), aI q 8 (uP u1)), ((ad 4), aD q 8 (fun i => FP.i2d (uX u1 i))), ((ad 5), aD q 16 (fun i => FP.i2d (uA u1 i))), ((ad 6), aD q 16 (fun i => FP.i2d (uB u1 i))), ((ad 7), aD q 16 (uF u1))] ++ TW (uN u1) (WQ q (uC u1))) H := hP
      have hD : va_D A ([((ad 0), .inr (3, [.ref (ad 1), .ref (ad 2), .int (nI (uN u1))])), ((ad 2), aF q 6 (fun j => if j < uN u1 then some (uO u1 j) else none)), ((ad 1), .inr (1, [.ref (ad 3), .ref (ad 4), .ref (ad 5), .ref (ad 6), .ref (ad 7), .double (uM u1), .int (nI (uT u1))])), ((ad 3), aI q 8 (uP u1)), ((ad 4), aD q 8 (fun i => FP.i2d (uX u1 i))), ((ad 5), aD q 16 (fun i => FP.i2d (uA u1 i))), ((ad 6), aD q 16 (fun i => FP.i2d (uB u1 i))), ((ad 7), aD q 16 (uF u1))] ++ TW (uN u1) (WQ q (uC u1))) := hD
      have hA : vAct v V = vPath ((lowV (v >>> (8 &&& 31)) 11) - 1) (v >>> (9 &&& 31)) V := by unfold vAct; rw [if_pos hcnd1]; unfold actO; rw [← hcs]; rw [selV_2]
      rw [← hA] at hw
      refine W.widen (k := 11) (n := 73) (Nat.le_of_ble_eq_true rfl) (Nat.le_of_ble_eq_true rfl) ?_
      have hP9 := hP
      have hD9 := hD
      refine W.endD hu18 ?_
      exact W.lret (v := r1) hx hb hr (fun t ht hW => ⟨⟨r1, u1, rfl, hw, by rw [ht]; exact hP9, hD9⟩, hS.F ht⟩) hS.2.2 dL_act_256
    · skip
      refine lv_tableIn (off := 125) (tgt := 257) hx hb dL_act_132 (by decide) (by decide) (by decide) (by decide) ?_
      refine lv_aload_n hx hb dL_act_257 rfl (lv_at hl 5 rfl) ?_
      refine lv_iload hx hb dL_act_258 (lv_at hl 0 rfl) ?_
      refine lv_iload_n hx hb dL_act_260 rfl (lv_at hl 4 rfl) ?_
      refine lv_if_eq (tgt := 269) hx hb dL_act_261 (by decide) (fun h => absurd h (by decide)) (fun _ => ?_)
      refine lv_iload hx hb dL_act_264 (lv_at hl 2 rfl) ?_
      refine lv_goto (tgt := 273) hx hb dL_act_266 (by decide) ?_
      refine lv_iload_n hx hb dL_act_273 rfl (lv_at hl 4 rfl) ?_
      refine lv_if_eq (tgt := 282) hx hb dL_act_274 (by decide) (fun h => absurd h (by decide)) (fun _ => ?_)
      refine lv_iload hx hb dL_act_277 (lv_at hl 1 rfl) ?_
      refine lv_goto (tgt := 317) hx hb dL_act_279 (by decide) ?_
      have hPc := hP.part (cx := [((ad 0), .inr (3, [.ref (ad 1), .ref (ad 2), .int (nI (uN u))])), ((ad 2), aF q 6 (fun j => if j < uN u then some (uO u j) else none)), ((ad 1), .inr (1, [.ref (ad 3), .ref (ad 4), .ref (ad 5), .ref (ad 6), .ref (ad 7), .double (uM u), .int (nI (uT u))])), ((ad 3), aI q 8 (uP u)), ((ad 4), aD q 8 (fun i => FP.i2d (uX u i))), ((ad 5), aD q 16 (fun i => FP.i2d (uA u i))), ((ad 6), aD q 16 (fun i => FP.i2d (uB u i))), ((ad 7), aD q 16 (uF u))]) [0, 1, 2, 3, 4, 5, 6, 7] rfl
      have hDc := hD.part (cx := [((ad 0), .inr (3, [.ref (ad 1), .ref (ad 2), .int (nI (uN u))])), ((ad 2), aF q 6 (fun j => if j < uN u then some (uO u j) else none)), ((ad 1), .inr (1, [.ref (ad 3), .ref (ad 4), .ref (ad 5), .ref (ad 6), .ref (ad 7), .double (uM u), .int (nI (uT u))])), ((ad 3), aI q 8 (uP u)), ((ad 4), aD q 8 (fun i => FP.i2d (uX u i))), ((ad 5), aD q 16 (fun i => FP.i2d (uA u i))), ((ad 6), aD q 16 (fun i => FP.i2d (uB u i))), ((ad 7), aD q 16 (uF u))]) [0, 1, 2, 3, 4, 5, 6, 7] (by decide) rfl
      have hFc := va_freeP (cx := [((ad 0), .inr (3, [.ref (ad 1), .ref (ad 2), .int (nI (uN u))])), ((ad 2), aF q 6 (fun j => if j < uN u then some (uO u j) else none)), ((ad 1), .inr (1, [.ref (ad 3), .ref (ad 4), .ref (ad 5), .ref (ad 6), .ref (ad 7), .double (uM u), .int (nI (uT u))])), ((ad 3), aI q 8 (uP u)), ((ad 4), aD q 8 (fun i => FP.i2d (uX u i))), ((ad 5), aD q 16 (fun i => FP.i2d (uA u i))), ((ad 6), aD q 16 (fun i => FP.i2d (uB u i))), ((ad 7), aD q 16 (uF u))]) hD hS hA [0, 1, 2, 3, 4, 5, 6, 7] rfl
      refine va_calllD hd0 (swd_run (As := [.ref (ad 0), .int ((lowV (v >>> (11 &&& 31)) 7) - 1), .int ((lowV (v >>> (8 &&& 31)) 11) - 1), .int (v >>> (9 &&& 31))]) (rest := []) ⟨hx, hb, hml, hown, (dr_words hts s.drawn)⟩ (h_filter hst ((lowV (v >>> (11 &&& 31)) 7) - 1) ((lowV (v >>> (8 &&& 31)) 11) - 1) (v >>> (9 &&& 31)) G q H.size ad V u hu) (vx_cwSW 4 (dr_words hts s.drawn) gL_act_L_filter rfl rfl rfl (by decide +kernel) ⟨Nat.le_of_ble_eq_true rfl, Nat.le_of_ble_eq_true rfl⟩) ⟨preY_blind, preY_start (s := s.setDrawn s.drawn) hPc hK hDc (hNF.drawn s.drawn) (hNT.drawn s.drawn) (hNC.drawn s.drawn) hS (fun q h => hFc q h)⟩ rfl rfl hl.1 rfl (lv_room (Nat.le_of_ble_eq_true rfl)) dL_act_317 ⟨(by show _ ≤ 11; omega), (by show _ ≤ 73; omega)⟩) hS (fun q _ h => hFc q h) hFc (fun r1 u9 t9 H1 locs ht9 hv99 hw hB9 hz9 hk9 hS du21 hu21 => ?_)
      obtain ⟨u1, rfl⟩ : ∃ z, z = u9 := ⟨_, rfl⟩
      obtain ⟨hP1, hD1⟩ := hB9
      rw [ht9] at hP1
      obtain ⟨hP, hD⟩ := va_joinP (wr := []) (rx := [((ad 0), .inr (3, [.ref (ad 1), .ref (ad 2), .int (nI (uN u1))])), ((ad 2), aF q 6 (fun j => if j < uN u1 then some (uO u1 j) else none)), ((ad 1), .inr (1, [.ref (ad 3), .ref (ad 4), .ref (ad 5), .ref (ad 6), .ref (ad 7), .double (uM u1), .int (nI (uT u1))])), ((ad 3), aI q 8 (uP u1)), ((ad 4), aD q 8 (fun i => FP.i2d (uX u1 i))), ((ad 5), aD q 16 (fun i => FP.i2d (uA u1 i))), ((ad 6), aD q 16 (fun i => FP.i2d (uB u1 i))), ((ad 7), aD q 16 (uF u1))]) (pl1 := TW (uN u1) (WQ q (uC u1))) hP hD [0, 1, 2, 3, 4, 5, 6, 7] [] rfl rfl (by decide) (by decide) hk9 hFc hP1 hD1
      generalize H1 = H at hP hS ⊢
      have hP : va_P G vwCl ([((ad 0), .inr (3, [.ref (ad 1), .ref (ad 2), .int (nI (uN u1))])), ((ad 2), aF q 6 (fun j => if j < uN u1 then some (uO u1 j) else none)), ((ad 1), .inr (1, [.ref (ad 3), .ref (ad 4), .ref (ad 5), .ref (ad 6), .ref (ad 7), .double (uM u1), .int (nI (uT u1))])), ((ad 3), aI q 8 (uP u1)), ((ad 4), aD q 8 (fun i => FP.i2d (uX u1 i))), ((ad 5), aD q 16 (fun i => FP.i2d (uA u1 i))), ((ad 6), aD q 16 (fun i => FP.i2d (uB u1 i))), ((ad 7), aD q 16 (uF u1))] ++ TW (uN u1) (WQ q (uC u1))) H := hP
      have hD : va_D A ([((ad 0), .inr (3, [.ref (ad 1), .ref (ad 2), .int (nI (uN u1))])), ((ad 2), aF q 6 (fun j => if j < uN u1 then some (uO u1 j) else none)), ((ad 1), .inr (1, [.ref (ad 3), .ref (ad 4), .ref (ad 5), .ref (ad 6), .ref (ad 7), .double (uM u1), .int (nI (uT u1))])), ((ad 3), aI q 8 (uP u1)), ((ad 4), aD q 8 (fun i => FP.i2d (uX u1 i))), ((ad 5), aD q 16 (fun i => FP.i2d (uA u1 i))), ((ad 6), aD q 16 (fun i => FP.i2d (uB u1 i))), ((ad 7), aD q 16 (uF u1))] ++ TW (uN u1) (WQ q (uC u1))) := hD
      have hA : vAct v V = vFilter ((lowV (v >>> (11 &&& 31)) 7) - 1) ((lowV (v >>> (8 &&& 31)) 11) - 1) (v >>> (9 &&& 31)) V := by unfold vAct; rw [if_pos hcnd1]; unfold actO; rw [← hcs]; rw [selV_3]
      rw [← hA] at hw
      refine W.widen (k := 11) (n := 73) (Nat.le_of_ble_eq_true rfl) (Nat.le_of_ble_eq_true rfl) ?_
      have hP9 := hP
      have hD9 := hD
      refine W.endD hu21 ?_
      exact W.lret (v := r1) hx hb hr (fun t ht hW => ⟨⟨r1, u1, rfl, hw, by rw [ht]; exact hP9, hD9⟩, hS.F ht⟩) hS.2.2 dL_act_320
    · skip
      refine lv_tableIn (off := 125) (tgt := 257) hx hb dL_act_132 (by decide) (by decide) (by decide) (by decide) ?_
      refine lv_aload_n hx hb dL_act_257 rfl (lv_at hl 5 rfl) ?_
      refine lv_iload hx hb dL_act_258 (lv_at hl 0 rfl) ?_
      refine lv_iload_n hx hb dL_act_260 rfl (lv_at hl 4 rfl) ?_
      refine lv_if_eq (tgt := 269) hx hb dL_act_261 (by decide) (fun h => absurd h (by decide)) (fun _ => ?_)
      refine lv_iload hx hb dL_act_264 (lv_at hl 2 rfl) ?_
      refine lv_goto (tgt := 273) hx hb dL_act_266 (by decide) ?_
      refine lv_iload_n hx hb dL_act_273 rfl (lv_at hl 4 rfl) ?_
      refine lv_if_eq (tgt := 282) hx hb dL_act_274 (by decide) (fun h => absurd h (by decide)) (fun _ => ?_)
      refine lv_iload hx hb dL_act_277 (lv_at hl 1 rfl) ?_
      refine lv_goto (tgt := 317) hx hb dL_act_279 (by decide) ?_
      have hPc := hP.part (cx := [((ad 0), .inr (3, [.ref (ad 1), .ref (ad 2), .int (nI (uN u))])), ((ad 2), aF q 6 (fun j => if j < uN u then some (uO u j) else none)), ((ad 1), .inr (1, [.ref (ad 3), .ref (ad 4), .ref (ad 5), .ref (ad 6), .ref (ad 7), .double (uM u), .int (nI (uT u))])), ((ad 3), aI q 8 (uP u)), ((ad 4), aD q 8 (fun i => FP.i2d (uX u i))), ((ad 5), aD q 16 (fun i => FP.i2d (uA u i))), ((ad 6), aD q 16 (fun i => FP.i2d (uB u i))), ((ad 7), aD q 16 (uF u))]) [0, 1, 2, 3, 4, 5, 6, 7] rfl
      have hDc := hD.part (cx := [((ad 0), .inr (3, [.ref (ad 1), .ref (ad 2), .int (nI (uN u))])), ((ad 2), aF q 6 (fun j => if j < uN u then some (uO u j) else none)), ((ad 1), .inr (1, [.ref (ad 3), .ref (ad 4), .ref (ad 5), .ref (ad 6), .ref (ad 7), .double (uM u), .int (nI (uT u))])), ((ad 3), aI q 8 (uP u)), ((ad 4), aD q 8 (fun i => FP.i2d (uX u i))), ((ad 5), aD q 16 (fun i => FP.i2d (uA u i))), ((ad 6), aD q 16 (fun i => FP.i2d (uB u i))), ((ad 7), aD q 16 (uF u))]) [0, 1, 2, 3, 4, 5, 6, 7] (by decide) rfl
      have hFc := va_freeP (cx := [((ad 0), .inr (3, [.ref (ad 1), .ref (ad 2), .int (nI (uN u))])), ((ad 2), aF q 6 (fun j => if j < uN u then some (uO u j) else none)), ((ad 1), .inr (1, [.ref (ad 3), .ref (ad 4), .ref (ad 5), .ref (ad 6), .ref (ad 7), .double (uM u), .int (nI (uT u))])), ((ad 3), aI q 8 (uP u)), ((ad 4), aD q 8 (fun i => FP.i2d (uX u i))), ((ad 5), aD q 16 (fun i => FP.i2d (uA u i))), ((ad 6), aD q 16 (fun i => FP.i2d (uB u i))), ((ad 7), aD q 16 (uF u))]) hD hS hA [0, 1, 2, 3, 4, 5, 6, 7] rfl
      refine va_calllD hd0 (swd_run (As := [.ref (ad 0), .int ((lowV (v >>> (11 &&& 31)) 7) - 1), .int ((lowV (v >>> (8 &&& 31)) 11) - 1), .int (v >>> (9 &&& 31))]) (rest := []) ⟨hx, hb, hml, hown, (dr_words hts s.drawn)⟩ (h_filter hst ((lowV (v >>> (11 &&& 31)) 7) - 1) ((lowV (v >>> (8 &&& 31)) 11) - 1) (v >>> (9 &&& 31)) G q H.size ad V u hu) (vx_cwSW 4 (dr_words hts s.drawn) gL_act_L_filter rfl rfl rfl (by decide +kernel) ⟨Nat.le_of_ble_eq_true rfl, Nat.le_of_ble_eq_true rfl⟩) ⟨preY_blind, preY_start (s := s.setDrawn s.drawn) hPc hK hDc (hNF.drawn s.drawn) (hNT.drawn s.drawn) (hNC.drawn s.drawn) hS (fun q h => hFc q h)⟩ rfl rfl hl.1 rfl (lv_room (Nat.le_of_ble_eq_true rfl)) dL_act_317 ⟨(by show _ ≤ 11; omega), (by show _ ≤ 73; omega)⟩) hS (fun q _ h => hFc q h) hFc (fun r1 u9 t9 H1 locs ht9 hv99 hw hB9 hz9 hk9 hS du24 hu24 => ?_)
      obtain ⟨u1, rfl⟩ : ∃ z, z = u9 := ⟨_, rfl⟩
      obtain ⟨hP1, hD1⟩ := hB9
      rw [ht9] at hP1
      obtain ⟨hP, hD⟩ := va_joinP (wr := []) (rx := [((ad 0), .inr (3, [.ref (ad 1), .ref (ad 2), .int (nI (uN u1))])), ((ad 2), aF q 6 (fun j => if j < uN u1 then some (uO u1 j) else none)), ((ad 1), .inr (1, [.ref (ad 3), .ref (ad 4), .ref (ad 5), .ref (ad 6), .ref (ad 7), .double (uM u1), .int (nI (uT u1))])), ((ad 3), aI q 8 (uP u1)), ((ad 4), aD q 8 (fun i => FP.i2d (uX u1 i))), ((ad 5), aD q 16 (fun i => FP.i2d (uA u1 i))), ((ad 6), aD q 16 (fun i => FP.i2d (uB u1 i))), ((ad 7), aD q 16 (uF u1))]) (pl1 := TW (uN u1) (WQ q (uC u1))) hP hD [0, 1, 2, 3, 4, 5, 6, 7] [] rfl rfl (by decide) (by decide) hk9 hFc hP1 hD1
      generalize H1 = H at hP hS ⊢
      have hP : va_P G vwCl ([((ad 0), .inr (3, [.ref (ad 1), .ref (ad 2), .int (nI (uN u1))])), ((ad 2), aF q 6 (fun j => if j < uN u1 then some (uO u1 j) else none)), ((ad 1), .inr (1, [.ref (ad 3), .ref (ad 4), .ref (ad 5), .ref (ad 6), .ref (ad 7), .double (uM u1), .int (nI (uT u1))])), ((ad 3), aI q 8 (uP u1)), ((ad 4), aD q 8 (fun i => FP.i2d (uX u1 i))), ((ad 5), aD q 16 (fun i => FP.i2d (uA u1 i))), ((ad 6), aD q 16 (fun i => FP.i2d (uB u1 i))), ((ad 7), aD q 16 (uF u1))] ++ TW (uN u1) (WQ q (uC u1))) H := hP
      have hD : va_D A ([((ad 0), .inr (3, [.ref (ad 1), .ref (ad 2), .int (nI (uN u1))])), ((ad 2), aF q 6 (fun j => if j < uN u1 then some (uO u1 j) else none)), ((ad 1), .inr (1, [.ref (ad 3), .ref (ad 4), .ref (ad 5), .ref (ad 6), .ref (ad 7), .double (uM u1), .int (nI (uT u1))])), ((ad 3), aI q 8 (uP u1)), ((ad 4), aD q 8 (fun i => FP.i2d (uX u1 i))), ((ad 5), aD q 16 (fun i => FP.i2d (uA u1 i))), ((ad 6), aD q 16 (fun i => FP.i2d (uB u1 i))), ((ad 7), aD q 16 (uF u1))] ++ TW (uN u1) (WQ q (uC u1))) := hD
      have hA : vAct v V = vFilter ((lowV (v >>> (11 &&& 31)) 7) - 1) ((lowV (v >>> (8 &&& 31)) 11) - 1) (v >>> (9 &&& 31)) V := by unfold vAct; rw [if_pos hcnd1]; unfold actO; rw [← hcs]; rw [selV_4]
      rw [← hA] at hw
      refine W.widen (k := 11) (n := 73) (Nat.le_of_ble_eq_true rfl) (Nat.le_of_ble_eq_true rfl) ?_
      have hP9 := hP
      have hD9 := hD
      refine W.endD hu24 ?_
      exact W.lret (v := r1) hx hb hr (fun t ht hW => ⟨⟨r1, u1, rfl, hw, by rw [ht]; exact hP9, hD9⟩, hS.F ht⟩) hS.2.2 dL_act_320
    · skip
      refine lv_tableIn (off := 125) (tgt := 257) hx hb dL_act_132 (by decide) (by decide) (by decide) (by decide) ?_
      refine lv_aload_n hx hb dL_act_257 rfl (lv_at hl 5 rfl) ?_
      refine lv_iload hx hb dL_act_258 (lv_at hl 0 rfl) ?_
      refine lv_iload_n hx hb dL_act_260 rfl (lv_at hl 4 rfl) ?_
      refine lv_if_eq (tgt := 269) hx hb dL_act_261 (by decide) (fun h => absurd h (by decide)) (fun _ => ?_)
      refine lv_iload hx hb dL_act_264 (lv_at hl 2 rfl) ?_
      refine lv_goto (tgt := 273) hx hb dL_act_266 (by decide) ?_
      refine lv_iload_n hx hb dL_act_273 rfl (lv_at hl 4 rfl) ?_
      refine lv_if_eq (tgt := 282) hx hb dL_act_274 (by decide) (fun h => absurd h (by decide)) (fun _ => ?_)
      refine lv_iload hx hb dL_act_277 (lv_at hl 1 rfl) ?_
      refine lv_goto (tgt := 317) hx hb dL_act_279 (by decide) ?_
      have hPc := hP.part (cx := [((ad 0), .inr (3, [.ref (ad 1), .ref (ad 2), .int (nI (uN u))])), ((ad 2), aF q 6 (fun j => if j < uN u then some (uO u j) else none)), ((ad 1), .inr (1, [.ref (ad 3), .ref (ad 4), .ref (ad 5), .ref (ad 6), .ref (ad 7), .double (uM u), .int (nI (uT u))])), ((ad 3), aI q 8 (uP u)), ((ad 4), aD q 8 (fun i => FP.i2d (uX u i))), ((ad 5), aD q 16 (fun i => FP.i2d (uA u i))), ((ad 6), aD q 16 (fun i => FP.i2d (uB u i))), ((ad 7), aD q 16 (uF u))]) [0, 1, 2, 3, 4, 5, 6, 7] rfl
      have hDc := hD.part (cx := [((ad 0), .inr (3, [.ref (ad 1), .ref (ad 2), .int (nI (uN u))])), ((ad 2), aF q 6 (fun j => if j < uN u then some (uO u j) else none)), ((ad 1), .inr (1, [.ref (ad 3), .ref (ad 4), .ref (ad 5), .ref (ad 6), .ref (ad 7), .double (uM u), .int (nI (uT u))])), ((ad 3), aI q 8 (uP u)), ((ad 4), aD q 8 (fun i => FP.i2d (uX u i))), ((ad 5), aD q 16 (fun i => FP.i2d (uA u i))), ((ad 6), aD q 16 (fun i => FP.i2d (uB u i))), ((ad 7), aD q 16 (uF u))]) [0, 1, 2, 3, 4, 5, 6, 7] (by decide) rfl
      have hFc := va_freeP (cx := [((ad 0), .inr (3, [.ref (ad 1), .ref (ad 2), .int (nI (uN u))])), ((ad 2), aF q 6 (fun j => if j < uN u then some (uO u j) else none)), ((ad 1), .inr (1, [.ref (ad 3), .ref (ad 4), .ref (ad 5), .ref (ad 6), .ref (ad 7), .double (uM u), .int (nI (uT u))])), ((ad 3), aI q 8 (uP u)), ((ad 4), aD q 8 (fun i => FP.i2d (uX u i))), ((ad 5), aD q 16 (fun i => FP.i2d (uA u i))), ((ad 6), aD q 16 (fun i => FP.i2d (uB u i))), ((ad 7), aD q 16 (uF u))]) hD hS hA [0, 1, 2, 3, 4, 5, 6, 7] rfl
      refine va_calllD hd0 (swd_run (As := [.ref (ad 0), .int ((lowV (v >>> (11 &&& 31)) 7) - 1), .int ((lowV (v >>> (8 &&& 31)) 11) - 1), .int (v >>> (9 &&& 31))]) (rest := []) ⟨hx, hb, hml, hown, (dr_words hts s.drawn)⟩ (h_filter hst ((lowV (v >>> (11 &&& 31)) 7) - 1) ((lowV (v >>> (8 &&& 31)) 11) - 1) (v >>> (9 &&& 31)) G q H.size ad V u hu) (vx_cwSW 4 (dr_words hts s.drawn) gL_act_L_filter rfl rfl rfl (by decide +kernel) ⟨Nat.le_of_ble_eq_true rfl, Nat.le_of_ble_eq_true rfl⟩) ⟨preY_blind, preY_start (s := s.setDrawn s.drawn) hPc hK hDc (hNF.drawn s.drawn) (hNT.drawn s.drawn) (hNC.drawn s.drawn) hS (fun q h => hFc q h)⟩ rfl rfl hl.1 rfl (lv_room (Nat.le_of_ble_eq_true rfl)) dL_act_317 ⟨(by show _ ≤ 11; omega), (by show _ ≤ 73; omega)⟩) hS (fun q _ h => hFc q h) hFc (fun r1 u9 t9 H1 locs ht9 hv99 hw hB9 hz9 hk9 hS du27 hu27 => ?_)
      obtain ⟨u1, rfl⟩ : ∃ z, z = u9 := ⟨_, rfl⟩
      obtain ⟨hP1, hD1⟩ := hB9
      rw [ht9] at hP1
      obtain ⟨hP, hD⟩ := va_joinP (wr := []) (rx := [((ad 0), .inr (3, [.ref (ad 1), .ref (ad 2), .int (nI (uN u1))])), ((ad 2), aF q 6 (fun j => if j < uN u1 then some (uO u1 j) else none)), ((ad 1), .inr (1, [.ref (ad 3), .ref (ad 4), .ref (ad 5), .ref (ad 6), .ref (ad 7), .double (uM u1), .int (nI (uT u1))])), ((ad 3), aI q 8 (uP u1)), ((ad 4), aD q 8 (fun i => FP.i2d (uX u1 i))), ((ad 5), aD q 16 (fun i => FP.i2d (uA u1 i))), ((ad 6), aD q 16 (fun i => FP.i2d (uB u1 i))), ((ad 7), aD q 16 (uF u1))]) (pl1 := TW (uN u1) (WQ q (uC u1))) hP hD [0, 1, 2, 3, 4, 5, 6, 7] [] rfl rfl (by decide) (by decide) hk9 hFc hP1 hD1
      generalize H1 = H at hP hS ⊢
      have hP : va_P G vwCl ([((ad 0), .inr (3, [.ref (ad 1), .ref (ad 2), .int (nI (uN u1))])), ((ad 2), aF q 6 (fun j => if j < uN u1 then some (uO u1 j) else none)), ((ad 1), .inr (1, [.ref (ad 3), .ref (ad 4), .ref (ad 5), .ref (ad 6), .ref (ad 7), .double (uM u1), .int (nI (uT u1))])), ((ad 3), aI q 8 (uP u1)), ((ad 4), aD q 8 (fun i => FP.i2d (uX u1 i))), ((ad 5), aD q 16 (fun i => FP.i2d (uA u1 i))), ((ad 6), aD q 16 (fun i => FP.i2d (uB u1 i))), ((ad 7), aD q 16 (uF u1))] ++ TW (uN u1) (WQ q (uC u1))) H := hP
      have hD : va_D A ([((ad 0), .inr (3, [.ref (ad 1), .ref (ad 2), .int (nI (uN u1))])), ((ad 2), aF q 6 (fun j => if j < uN u1 then some (uO u1 j) else none)), ((ad 1), .inr (1, [.ref (ad 3), .ref (ad 4), .ref (ad 5), .ref (ad 6), .ref (ad 7), .double (uM u1), .int (nI (uT u1))])), ((ad 3), aI q 8 (uP u1)), ((ad 4), aD q 8 (fun i => FP.i2d (uX u1 i))), ((ad 5), aD q 16 (fun i => FP.i2d (uA u1 i))), ((ad 6), aD q 16 (fun i => FP.i2d (uB u1 i))), ((ad 7), aD q 16 (uF u1))] ++ TW (uN u1) (WQ q (uC u1))) := hD
      have hA : vAct v V = vFilter ((lowV (v >>> (11 &&& 31)) 7) - 1) ((lowV (v >>> (8 &&& 31)) 11) - 1) (v >>> (9 &&& 31)) V := by unfold vAct; rw [if_pos hcnd1]; unfold actO; rw [← hcs]; rw [selV_5]
      rw [← hA] at hw
      refine W.widen (k := 11) (n := 73) (Nat.le_of_ble_eq_true rfl) (Nat.le_of_ble_eq_true rfl) ?_
      have hP9 := hP
      have hD9 := hD
      refine W.endD hu27 ?_
      exact W.lret (v := r1) hx hb hr (fun t ht hW => ⟨⟨r1, u1, rfl, hw, by rw [ht]; exact hP9, hD9⟩, hS.F ht⟩) hS.2.2 dL_act_320
    · skip
      refine lv_tableIn (off := 189) (tgt := 321) hx hb dL_act_132 (by decide) (by decide) (by decide) (by decide) ?_
      refine lv_aload_n hx hb dL_act_321 rfl (lv_at hl 5 rfl) ?_
      refine lv_iload_n hx hb dL_act_322 rfl (lv_at hl 3 rfl) ?_
      refine lv_iload_n hx hb dL_act_323 rfl (lv_at hl 4 rfl) ?_
      refine lv_if_eq (tgt := 332) hx hb dL_act_324 (by decide) (fun h => absurd h (by decide)) (fun _ => ?_)
      refine lv_iload hx hb dL_act_327 (lv_at hl 1 rfl) ?_
      refine lv_goto (tgt := 346) hx hb dL_act_329 (by decide) ?_
      have hPc := hP.part (cx := [((ad 0), .inr (3, [.ref (ad 1), .ref (ad 2), .int (nI (uN u))])), ((ad 2), aF q 6 (fun j => if j < uN u then some (uO u j) else none)), ((ad 1), .inr (1, [.ref (ad 3), .ref (ad 4), .ref (ad 5), .ref (ad 6), .ref (ad 7), .double (uM u), .int (nI (uT u))])), ((ad 3), aI q 8 (uP u)), ((ad 4), aD q 8 (fun i => FP.i2d (uX u i))), ((ad 5), aD q 16 (fun i => FP.i2d (uA u i))), ((ad 6), aD q 16 (fun i => FP.i2d (uB u i))), ((ad 7), aD q 16 (uF u))]) [0, 1, 2, 3, 4, 5, 6, 7] rfl
      have hDc := hD.part (cx := [((ad 0), .inr (3, [.ref (ad 1), .ref (ad 2), .int (nI (uN u))])), ((ad 2), aF q 6 (fun j => if j < uN u then some (uO u j) else none)), ((ad 1), .inr (1, [.ref (ad 3), .ref (ad 4), .ref (ad 5), .ref (ad 6), .ref (ad 7), .double (uM u), .int (nI (uT u))])), ((ad 3), aI q 8 (uP u)), ((ad 4), aD q 8 (fun i => FP.i2d (uX u i))), ((ad 5), aD q 16 (fun i => FP.i2d (uA u i))), ((ad 6), aD q 16 (fun i => FP.i2d (uB u i))), ((ad 7), aD q 16 (uF u))]) [0, 1, 2, 3, 4, 5, 6, 7] (by decide) rfl
      have hFc := va_freeP (cx := [((ad 0), .inr (3, [.ref (ad 1), .ref (ad 2), .int (nI (uN u))])), ((ad 2), aF q 6 (fun j => if j < uN u then some (uO u j) else none)), ((ad 1), .inr (1, [.ref (ad 3), .ref (ad 4), .ref (ad 5), .ref (ad 6), .ref (ad 7), .double (uM u), .int (nI (uT u))])), ((ad 3), aI q 8 (uP u)), ((ad 4), aD q 8 (fun i => FP.i2d (uX u i))), ((ad 5), aD q 16 (fun i => FP.i2d (uA u i))), ((ad 6), aD q 16 (fun i => FP.i2d (uB u i))), ((ad 7), aD q 16 (uF u))]) hD hS hA [0, 1, 2, 3, 4, 5, 6, 7] rfl
      refine va_calllD hd0 (swd_run (As := [.ref (ad 0), .int ((lowV (v >>> (5 &&& 31)) 9) - 1), .int (v >>> (9 &&& 31))]) (rest := []) ⟨hx, hb, hml, hown, (dr_words hts s.drawn)⟩ (h_step hst ((lowV (v >>> (5 &&& 31)) 9) - 1) (v >>> (9 &&& 31)) G q H.size ad V u hu) (vx_cwSW 3 (dr_words hts s.drawn) gL_act_L_step rfl rfl rfl (by decide +kernel) ⟨Nat.le_of_ble_eq_true rfl, Nat.le_of_ble_eq_true rfl⟩) ⟨preY_blind, preY_start (s := s.setDrawn s.drawn) hPc hK hDc (hNF.drawn s.drawn) (hNT.drawn s.drawn) (hNC.drawn s.drawn) hS (fun q h => hFc q h)⟩ rfl rfl hl.1 rfl (lv_room (Nat.le_of_ble_eq_true rfl)) dL_act_346 ⟨(by show _ ≤ 11; omega), (by show _ ≤ 73; omega)⟩) hS (fun q _ h => hFc q h) hFc (fun r1 u9 t9 H1 locs ht9 hv99 hw hB9 hz9 hk9 hS du29 hu29 => ?_)
      obtain ⟨u1, rfl⟩ : ∃ z, z = u9 := ⟨_, rfl⟩
      obtain ⟨hP1, hD1⟩ := hB9
      rw [ht9] at hP1
      obtain ⟨hP, hD⟩ := va_joinP (wr := []) (rx := [((ad 0), .inr (3, [.ref (ad 1), .ref (ad 2), .int (nI (uN u1))])), ((ad 2), aF q 6 (fun j => if j < uN u1 then some (uO u1 j) else none)), ((ad 1), .inr (1, [.ref (ad 3), .ref (ad 4), .ref (ad 5), .ref (ad 6), .ref (ad 7), .double (uM u1), .int (nI (uT u1))])), ((ad 3), aI q 8 (uP u1)), ((ad 4), aD q 8 (fun i => FP.i2d (uX u1 i))), ((ad 5), aD q 16 (fun i => FP.i2d (uA u1 i))), ((ad 6), aD q 16 (fun i => FP.i2d (uB u1 i))), ((ad 7), aD q 16 (uF u1))]) (pl1 := TW (uN u1) (WQ q (uC u1))) hP hD [0, 1, 2, 3, 4, 5, 6, 7] [] rfl rfl (by decide) (by decide) hk9 hFc hP1 hD1
      generalize H1 = H at hP hS ⊢
      have hP : va_P G vwCl ([((ad 0), .inr (3, [.ref (ad 1), .ref (ad 2), .int (nI (uN u1))])), ((ad 2), aF q 6 (fun j => if j < uN u1 then some (uO u1 j) else none)), ((ad 1), .inr (1, [.ref (ad 3), .ref (ad 4), .ref (ad 5), .ref (ad 6), .ref (ad 7), .double (uM u1), .int (nI (uT u1))])), ((ad 3), aI q 8 (uP u1)), ((ad 4), aD q 8 (fun i => FP.i2d (uX u1 i))), ((ad 5), aD q 16 (fun i => FP.i2d (uA u1 i))), ((ad 6), aD q 16 (fun i => FP.i2d (uB u1 i))), ((ad 7), aD q 16 (uF u1))] ++ TW (uN u1) (WQ q (uC u1))) H := hP
      have hD : va_D A ([((ad 0), .inr (3, [.ref (ad 1), .ref (ad 2), .int (nI (uN u1))])), ((ad 2), aF q 6 (fun j => if j < uN u1 then some (uO u1 j) else none)), ((ad 1), .inr (1, [.ref (ad 3), .ref (ad 4), .ref (ad 5), .ref (ad 6), .ref (ad 7), .double (uM u1), .int (nI (uT u1))])), ((ad 3), aI q 8 (uP u1)), ((ad 4), aD q 8 (fun i => FP.i2d (uX u1 i))), ((ad 5), aD q 16 (fun i => FP.i2d (uA u1 i))), ((ad 6), aD q 16 (fun i => FP.i2d (uB u1 i))), ((ad 7), aD q 16 (uF u1))] ++ TW (uN u1) (WQ q (uC u1))) := hD
      have hA : vAct v V = vStep ((lowV (v >>> (5 &&& 31)) 9) - 1) (v >>> (9 &&& 31)) V := by unfold vAct; rw [if_pos hcnd1]; unfold actO; rw [← hcs]; rw [selV_6]
      rw [← hA] at hw
      refine W.widen (k := 11) (n := 73) (Nat.le_of_ble_eq_true rfl) (Nat.le_of_ble_eq_true rfl) ?_
      have hP9 := hP
      have hD9 := hD
      refine W.endD hu29 ?_
      exact W.lret (v := r1) hx hb hr (fun t ht hW => ⟨⟨r1, u1, rfl, hw, by rw [ht]; exact hP9, hD9⟩, hS.F ht⟩) hS.2.2 dL_act_349
    · skip
      refine lv_tableIn (off := 218) (tgt := 350) hx hb dL_act_132 (by decide) (by decide) (by decide) (by decide) ?_
      refine lv_aload_n hx hb dL_act_350 rfl (lv_at hl 5 rfl) ?_
      refine lv_iload_n hx hb dL_act_351 rfl (lv_at hl 3 rfl) ?_
      refine lv_iload_n hx hb dL_act_352 rfl (lv_at hl 4 rfl) ?_
      refine lv_if_eq (tgt := 361) hx hb dL_act_353 (by decide) (fun h => absurd h (by decide)) (fun _ => ?_)
      refine lv_iload hx hb dL_act_356 (lv_at hl 1 rfl) ?_
      refine lv_goto (tgt := 371) hx hb dL_act_358 (by decide) ?_
      refine lv_iload_n hx hb dL_act_371 rfl (lv_at hl 4 rfl) ?_
      refine lv_if_eq (tgt := 381) hx hb dL_act_372 (by decide) (fun h => absurd h (by decide)) (fun _ => ?_)
      refine lv_iload_n hx hb dL_act_375 rfl (lv_at hl 6 rfl) ?_
      refine lv_iconst (v := 4) hx hb dL_act_376 (by decide) ?_
      refine lv_ishr hx hb dL_act_377 ?_
      refine lv_goto (tgt := 389) hx hb dL_act_378 (by decide) ?_
      have hPc := hP.part (cx := [((ad 0), .inr (3, [.ref (ad 1), .ref (ad 2), .int (nI (uN u))])), ((ad 2), aF q 6 (fun j => if j < uN u then some (uO u j) else none)), ((ad 1), .inr (1, [.ref (ad 3), .ref (ad 4), .ref (ad 5), .ref (ad 6), .ref (ad 7), .double (uM u), .int (nI (uT u))])), ((ad 3), aI q 8 (uP u)), ((ad 4), aD q 8 (fun i => FP.i2d (uX u i))), ((ad 5), aD q 16 (fun i => FP.i2d (uA u i))), ((ad 6), aD q 16 (fun i => FP.i2d (uB u i))), ((ad 7), aD q 16 (uF u))]) [0, 1, 2, 3, 4, 5, 6, 7] rfl
      have hDc := hD.part (cx := [((ad 0), .inr (3, [.ref (ad 1), .ref (ad 2), .int (nI (uN u))])), ((ad 2), aF q 6 (fun j => if j < uN u then some (uO u j) else none)), ((ad 1), .inr (1, [.ref (ad 3), .ref (ad 4), .ref (ad 5), .ref (ad 6), .ref (ad 7), .double (uM u), .int (nI (uT u))])), ((ad 3), aI q 8 (uP u)), ((ad 4), aD q 8 (fun i => FP.i2d (uX u i))), ((ad 5), aD q 16 (fun i => FP.i2d (uA u i))), ((ad 6), aD q 16 (fun i => FP.i2d (uB u i))), ((ad 7), aD q 16 (uF u))]) [0, 1, 2, 3, 4, 5, 6, 7] (by decide) rfl
      have hFc := va_freeP (cx := [((ad 0), .inr (3, [.ref (ad 1), .ref (ad 2), .int (nI (uN u))])), ((ad 2), aF q 6 (fun j => if j < uN u then some (uO u j) else none)), ((ad 1), .inr (1, [.ref (ad 3), .ref (ad 4), .ref (ad 5), .ref (ad 6), .ref (ad 7), .double (uM u), .int (nI (uT u))])), ((ad 3), aI q 8 (uP u)), ((ad 4), aD q 8 (fun i => FP.i2d (uX u i))), ((ad 5), aD q 16 (fun i => FP.i2d (uA u i))), ((ad 6), aD q 16 (fun i => FP.i2d (uB u i))), ((ad 7), aD q 16 (uF u))]) hD hS hA [0, 1, 2, 3, 4, 5, 6, 7] rfl
      refine va_calllD hd0 (swd_run (As := [.ref (ad 0), .int ((lowV (v >>> (5 &&& 31)) 9) - 1), .int (v >>> (9 &&& 31)), .int (v >>> (4 &&& 31))]) (rest := []) ⟨hx, hb, hml, hown, (dr_words hts s.drawn)⟩ (h_watch hst ((lowV (v >>> (5 &&& 31)) 9) - 1) (v >>> (9 &&& 31)) (v >>> (4 &&& 31)) G q H.size ad V u hu) (vx_cwSW 4 (dr_words hts s.drawn) gL_act_L_watch rfl rfl rfl (by decide +kernel) ⟨Nat.le_of_ble_eq_true rfl, Nat.le_of_ble_eq_true rfl⟩) ⟨preY_blind, preY_start (s := s.setDrawn s.drawn) hPc hK hDc (hNF.drawn s.drawn) (hNT.drawn s.drawn) (hNC.drawn s.drawn) hS (fun q h => hFc q h)⟩ rfl rfl hl.1 rfl (lv_room (Nat.le_of_ble_eq_true rfl)) dL_act_389 ⟨(by show _ ≤ 11; omega), (by show _ ≤ 73; omega)⟩) hS (fun q _ h => hFc q h) hFc (fun r1 u9 t9 H1 locs ht9 hv99 hw hB9 hz9 hk9 hS du32 hu32 => ?_)
      obtain ⟨u1, rfl⟩ : ∃ z, z = u9 := ⟨_, rfl⟩
      obtain ⟨hP1, hD1⟩ := hB9
      rw [ht9] at hP1
      obtain ⟨hP, hD⟩ := va_joinP (wr := []) (rx := [((ad 0), .inr (3, [.ref (ad 1), .ref (ad 2), .int (nI (uN u1))])), ((ad 2), aF q 6 (fun j => if j < uN u1 then some (uO u1 j) else none)), ((ad 1), .inr (1, [.ref (ad 3), .ref (ad 4), .ref (ad 5), .ref (ad 6), .ref (ad 7), .double (uM u1), .int (nI (uT u1))])), ((ad 3), aI q 8 (uP u1)), ((ad 4), aD q 8 (fun i => FP.i2d (uX u1 i))), ((ad 5), aD q 16 (fun i => FP.i2d (uA u1 i))), ((ad 6), aD q 16 (fun i => FP.i2d (uB u1 i))), ((ad 7), aD q 16 (uF u1))]) (pl1 := TW (uN u1) (WQ q (uC u1))) hP hD [0, 1, 2, 3, 4, 5, 6, 7] [] rfl rfl (by decide) (by decide) hk9 hFc hP1 hD1
      generalize H1 = H at hP hS ⊢
      have hP : va_P G vwCl ([((ad 0), .inr (3, [.ref (ad 1), .ref (ad 2), .int (nI (uN u1))])), ((ad 2), aF q 6 (fun j => if j < uN u1 then some (uO u1 j) else none)), ((ad 1), .inr (1, [.ref (ad 3), .ref (ad 4), .ref (ad 5), .ref (ad 6), .ref (ad 7), .double (uM u1), .int (nI (uT u1))])), ((ad 3), aI q 8 (uP u1)), ((ad 4), aD q 8 (fun i => FP.i2d (uX u1 i))), ((ad 5), aD q 16 (fun i => FP.i2d (uA u1 i))), ((ad 6), aD q 16 (fun i => FP.i2d (uB u1 i))), ((ad 7), aD q 16 (uF u1))] ++ TW (uN u1) (WQ q (uC u1))) H := hP
      have hD : va_D A ([((ad 0), .inr (3, [.ref (ad 1), .ref (ad 2), .int (nI (uN u1))])), ((ad 2), aF q 6 (fun j => if j < uN u1 then some (uO u1 j) else none)), ((ad 1), .inr (1, [.ref (ad 3), .ref (ad 4), .ref (ad 5), .ref (ad 6), .ref (ad 7), .double (uM u1), .int (nI (uT u1))])), ((ad 3), aI q 8 (uP u1)), ((ad 4), aD q 8 (fun i => FP.i2d (uX u1 i))), ((ad 5), aD q 16 (fun i => FP.i2d (uA u1 i))), ((ad 6), aD q 16 (fun i => FP.i2d (uB u1 i))), ((ad 7), aD q 16 (uF u1))] ++ TW (uN u1) (WQ q (uC u1))) := hD
      have hA : vAct v V = vWatch ((lowV (v >>> (5 &&& 31)) 9) - 1) (v >>> (9 &&& 31)) (v >>> (4 &&& 31)) V := by unfold vAct; rw [if_pos hcnd1]; unfold actO; rw [← hcs]; rw [selV_7]
      rw [← hA] at hw
      refine W.widen (k := 11) (n := 73) (Nat.le_of_ble_eq_true rfl) (Nat.le_of_ble_eq_true rfl) ?_
      have hP9 := hP
      have hD9 := hD
      refine W.endD hu32 ?_
      exact W.lret (v := r1) hx hb hr (fun t ht hW => ⟨⟨r1, u1, rfl, hw, by rw [ht]; exact hP9, hD9⟩, hS.F ht⟩) hS.2.2 dL_act_392
    · skip
      refine lv_tableIn (off := 261) (tgt := 393) hx hb dL_act_132 (by decide) (by decide) (by decide) (by decide) ?_
      refine lv_iload_n hx hb dL_act_393 rfl (lv_at hl 6 rfl) ?_
      refine lv_bipush (v := 16) hx hb dL_act_394 (by decide) ?_
      refine lv_ishr hx hb dL_act_396 ?_
      refine lv_iconst (v := 3) hx hb dL_act_397 (by decide) ?_
      have hPc := hP.sub (ws' := []) [] rfl
      have hDc := hD.sub (ws' := []) [] (by decide) rfl
      have hFc := va_free (wc := []) hD hS hA [] rfl
      refine va_calli (va_runS (As := [.int (v >>> (16 &&& 31)), .int 3]) (rest := []) ⟨hx, hb, hml, hown, (dr_words hts s.drawn)⟩ (m_L_low l G q H.size (v >>> (16 &&& 31)) 3 (by decide)) (va_cwS 2 (dr_words hts s.drawn) gL_act_L_low rfl rfl rfl (by decide +kernel) ⟨Nat.le_of_ble_eq_true rfl, Nat.le_of_ble_eq_true rfl⟩) ⟨preW_blind, preW_start (s := s.setDrawn s.drawn) hPc hK hDc (hNF.drawn s.drawn)⟩ rfl rfl hl.1 rfl (lv_room (Nat.le_of_ble_eq_true rfl)) dL_act_398 ⟨(by show _ ≤ 11; omega), (by show _ ≤ 73; omega)⟩) hS (fun q _ h => hFc q h) hFc (fun rl u9 t9 H1 locs ht9 hv9 hw hB9 hz9 hk9 hS => ?_)
      obtain ⟨⟩ := u9
      obtain ⟨hP1, hD1⟩ := hB9
      rw [ht9] at hP1
      obtain ⟨hP, hD⟩ := va_joinQ (wr := [((ad 0), .inr (3, [.ref (ad 1), .ref (ad 2), .int (nI (uN u))])), ((ad 2), aF q 6 (fun j => if j < uN u then some (uO u j) else none)), ((ad 1), .inr (1, [.ref (ad 3), .ref (ad 4), .ref (ad 5), .ref (ad 6), .ref (ad 7), .double (uM u), .int (nI (uT u))])), ((ad 3), aI q 8 (uP u)), ((ad 4), aD q 8 (fun i => FP.i2d (uX u i))), ((ad 5), aD q 16 (fun i => FP.i2d (uA u i))), ((ad 6), aD q 16 (fun i => FP.i2d (uB u i))), ((ad 7), aD q 16 (uF u))]) (w1 := []) hP hD [] [0, 1, 2, 3, 4, 5, 6, 7] rfl rfl (by decide) (by decide) hk9 hFc hP1 hD1
      generalize H1 = H at hP hS ⊢
      have hP : va_P G vwCl ([((ad 0), .inr (3, [.ref (ad 1), .ref (ad 2), .int (nI (uN u))])), ((ad 2), aF q 6 (fun j => if j < uN u then some (uO u j) else none)), ((ad 1), .inr (1, [.ref (ad 3), .ref (ad 4), .ref (ad 5), .ref (ad 6), .ref (ad 7), .double (uM u), .int (nI (uT u))])), ((ad 3), aI q 8 (uP u)), ((ad 4), aD q 8 (fun i => FP.i2d (uX u i))), ((ad 5), aD q 16 (fun i => FP.i2d (uA u i))), ((ad 6), aD q 16 (fun i => FP.i2d (uB u i))), ((ad 7), aD q 16 (uF u))] ++ TW (uN u) (WQ q (uC u))) H := hP
      have hD : va_D A ([((ad 0), .inr (3, [.ref (ad 1), .ref (ad 2), .int (nI (uN u))])), ((ad 2), aF q 6 (fun j => if j < uN u then some (uO u j) else none)), ((ad 1), .inr (1, [.ref (ad 3), .ref (ad 4), .ref (ad 5), .ref (ad 6), .ref (ad 7), .double (uM u), .int (nI (uT u))])), ((ad 3), aI q 8 (uP u)), ((ad 4), aD q 8 (fun i => FP.i2d (uX u i))), ((ad 5), aD q 16 (fun i => FP.i2d (uA u i))), ((ad 6), aD q 16 (fun i => FP.i2d (uB u i))), ((ad 7), aD q 16 (uF u))] ++ TW (uN u) (WQ q (uC u))) := hD
      try dsimp only at hw
      subst hw
      by_cases hcnd2 : (lowV (v >>> (16 &&& 31)) 3) = 0
      · skip
        refine lv_if_ne (tgt := 412) hx hb dL_act_401 (by decide) (fun h => absurd hcnd2 h) (fun _ => ?_)
        refine lv_aload_n hx hb dL_act_404 rfl (lv_at hl 5 rfl) ?_
        refine lv_iload_n hx hb dL_act_405 rfl (lv_at hl 3 rfl) ?_
        have hPc := hP.part (cx := [((ad 0), .inr (3, [.ref (ad 1), .ref (ad 2), .int (nI (uN u))])), ((ad 2), aF q 6 (fun j => if j < uN u then some (uO u j) else none)), ((ad 1), .inr (1, [.ref (ad 3), .ref (ad 4), .ref (ad 5), .ref (ad 6), .ref (ad 7), .double (uM u), .int (nI (uT u))])), ((ad 3), aI q 8 (uP u)), ((ad 4), aD q 8 (fun i => FP.i2d (uX u i))), ((ad 5), aD q 16 (fun i => FP.i2d (uA u i))), ((ad 6), aD q 16 (fun i => FP.i2d (uB u i))), ((ad 7), aD q 16 (uF u))]) [0, 1, 2, 3, 4, 5, 6, 7] rfl
        have hDc := hD.part (cx := [((ad 0), .inr (3, [.ref (ad 1), .ref (ad 2), .int (nI (uN u))])), ((ad 2), aF q 6 (fun j => if j < uN u then some (uO u j) else none)), ((ad 1), .inr (1, [.ref (ad 3), .ref (ad 4), .ref (ad 5), .ref (ad 6), .ref (ad 7), .double (uM u), .int (nI (uT u))])), ((ad 3), aI q 8 (uP u)), ((ad 4), aD q 8 (fun i => FP.i2d (uX u i))), ((ad 5), aD q 16 (fun i => FP.i2d (uA u i))), ((ad 6), aD q 16 (fun i => FP.i2d (uB u i))), ((ad 7), aD q 16 (uF u))]) [0, 1, 2, 3, 4, 5, 6, 7] (by decide) rfl
        have hFc := va_freeP (cx := [((ad 0), .inr (3, [.ref (ad 1), .ref (ad 2), .int (nI (uN u))])), ((ad 2), aF q 6 (fun j => if j < uN u then some (uO u j) else none)), ((ad 1), .inr (1, [.ref (ad 3), .ref (ad 4), .ref (ad 5), .ref (ad 6), .ref (ad 7), .double (uM u), .int (nI (uT u))])), ((ad 3), aI q 8 (uP u)), ((ad 4), aD q 8 (fun i => FP.i2d (uX u i))), ((ad 5), aD q 16 (fun i => FP.i2d (uA u i))), ((ad 6), aD q 16 (fun i => FP.i2d (uB u i))), ((ad 7), aD q 16 (uF u))]) hD hS hA [0, 1, 2, 3, 4, 5, 6, 7] rfl
        refine va_calllD hd0 (swd_run (As := [.ref (ad 0), .int ((lowV (v >>> (5 &&& 31)) 9) - 1)]) (rest := []) ⟨hx, hb, hml, hown, (dr_words hts s.drawn)⟩ (h_begin hst ((lowV (v >>> (5 &&& 31)) 9) - 1) G q H.size ad V u hu) (vx_cwSW 2 (dr_words hts s.drawn) gL_act_L_begin rfl rfl rfl (by decide +kernel) ⟨Nat.le_of_ble_eq_true rfl, Nat.le_of_ble_eq_true rfl⟩) ⟨preY_blind, preY_start (s := s.setDrawn s.drawn) hPc hK hDc (hNF.drawn s.drawn) (hNT.drawn s.drawn) (hNC.drawn s.drawn) hS (fun q h => hFc q h)⟩ rfl rfl hl.1 rfl (lv_room (Nat.le_of_ble_eq_true rfl)) dL_act_406 ⟨(by show _ ≤ 11; omega), (by show _ ≤ 73; omega)⟩) hS (fun q _ h => hFc q h) hFc (fun r1 u9 t9 H1 locs ht9 hv99 hw hB9 hz9 hk9 hS du35 hu35 => ?_)
        obtain ⟨u1, rfl⟩ : ∃ z, z = u9 := ⟨_, rfl⟩
        obtain ⟨hP1, hD1⟩ := hB9
        rw [ht9] at hP1
        obtain ⟨hP, hD⟩ := va_joinP (wr := []) (rx := [((ad 0), .inr (3, [.ref (ad 1), .ref (ad 2), .int (nI (uN u1))])), ((ad 2), aF q 6 (fun j => if j < uN u1 then some (uO u1 j) else none)), ((ad 1), .inr (1, [.ref (ad 3), .ref (ad 4), .ref (ad 5), .ref (ad 6), .ref (ad 7), .double (uM u1), .int (nI (uT u1))])), ((ad 3), aI q 8 (uP u1)), ((ad 4), aD q 8 (fun i => FP.i2d (uX u1 i))), ((ad 5), aD q 16 (fun i => FP.i2d (uA u1 i))), ((ad 6), aD q 16 (fun i => FP.i2d (uB u1 i))), ((ad 7), aD q 16 (uF u1))]) (pl1 := TW (uN u1) (WQ q (uC u1))) hP hD [0, 1, 2, 3, 4, 5, 6, 7] [] rfl rfl (by decide) (by decide) hk9 hFc hP1 hD1
        generalize H1 = H at hP hS ⊢
        have hP : va_P G vwCl ([((ad 0), .inr (3, [.ref (ad 1), .ref (ad 2), .int (nI (uN u1))])), ((ad 2), aF q 6 (fun j => if j < uN u1 then some (uO u1 j) else none)), ((ad 1), .inr (1, [.ref (ad 3), .ref (ad 4), .ref (ad 5), .ref (ad 6), .ref (ad 7), .double (uM u1), .int (nI (uT u1))])), ((ad 3), aI q 8 (uP u1)), ((ad 4), aD q 8 (fun i => FP.i2d (uX u1 i))), ((ad 5), aD q 16 (fun i => FP.i2d (uA u1 i))), ((ad 6), aD q 16 (fun i => FP.i2d (uB u1 i))), ((ad 7), aD q 16 (uF u1))] ++ TW (uN u1) (WQ q (uC u1))) H := hP
        have hD : va_D A ([((ad 0), .inr (3, [.ref (ad 1), .ref (ad 2), .int (nI (uN u1))])), ((ad 2), aF q 6 (fun j => if j < uN u1 then some (uO u1 j) else none)), ((ad 1), .inr (1, [.ref (ad 3), .ref (ad 4), .ref (ad 5), .ref (ad 6), .ref (ad 7), .double (uM u1), .int (nI (uT u1))])), ((ad 3), aI q 8 (uP u1)), ((ad 4), aD q 8 (fun i => FP.i2d (uX u1 i))), ((ad 5), aD q 16 (fun i => FP.i2d (uA u1 i))), ((ad 6), aD q 16 (fun i => FP.i2d (uB u1 i))), ((ad 7), aD q 16 (uF u1))] ++ TW (uN u1) (WQ q (uC u1))) := hD
        refine lv_goto (tgt := 434) hx hb dL_act_409 (by decide) ?_
        have hA : vAct v V = vBegin ((lowV (v >>> (5 &&& 31)) 9) - 1) V := by unfold vAct; rw [if_pos hcnd1]; unfold actO; rw [← hcs]; rw [selV_8]; rw [if_pos hcnd2]
        rw [← hA] at hw
        refine W.widen (k := 11) (n := 73) (Nat.le_of_ble_eq_true rfl) (Nat.le_of_ble_eq_true rfl) ?_
        have hP9 := hP
        have hD9 := hD
        refine W.endD hu35 ?_
        exact W.lret (v := r1) hx hb hr (fun t ht hW => ⟨⟨r1, u1, rfl, hw, by rw [ht]; exact hP9, hD9⟩, hS.F ht⟩) hS.2.2 dL_act_434
      · skip
        refine lv_if_ne (tgt := 412) hx hb dL_act_401 (by decide) (fun _ => ?_) (fun h => absurd h hcnd2)
        refine lv_aload_n hx hb dL_act_412 rfl (lv_at hl 5 rfl) ?_
        refine lv_iload_n hx hb dL_act_413 rfl (lv_at hl 3 rfl) ?_
        refine lv_iload_n hx hb dL_act_414 rfl (lv_at hl 4 rfl) ?_
        refine lv_if_eq (tgt := 423) hx hb dL_act_415 (by decide) (fun h => absurd h (by decide)) (fun _ => ?_)
        refine lv_iload hx hb dL_act_418 (lv_at hl 1 rfl) ?_
        refine lv_goto (tgt := 431) hx hb dL_act_420 (by decide) ?_
        have hPc := hP.part (cx := [((ad 0), .inr (3, [.ref (ad 1), .ref (ad 2), .int (nI (uN u))])), ((ad 2), aF q 6 (fun j => if j < uN u then some (uO u j) else none)), ((ad 1), .inr (1, [.ref (ad 3), .ref (ad 4), .ref (ad 5), .ref (ad 6), .ref (ad 7), .double (uM u), .int (nI (uT u))])), ((ad 3), aI q 8 (uP u)), ((ad 4), aD q 8 (fun i => FP.i2d (uX u i))), ((ad 5), aD q 16 (fun i => FP.i2d (uA u i))), ((ad 6), aD q 16 (fun i => FP.i2d (uB u i))), ((ad 7), aD q 16 (uF u))]) [0, 1, 2, 3, 4, 5, 6, 7] rfl
        have hDc := hD.part (cx := [((ad 0), .inr (3, [.ref (ad 1), .ref (ad 2), .int (nI (uN u))])), ((ad 2), aF q 6 (fun j => if j < uN u then some (uO u j) else none)), ((ad 1), .inr (1, [.ref (ad 3), .ref (ad 4), .ref (ad 5), .ref (ad 6), .ref (ad 7), .double (uM u), .int (nI (uT u))])), ((ad 3), aI q 8 (uP u)), ((ad 4), aD q 8 (fun i => FP.i2d (uX u i))), ((ad 5), aD q 16 (fun i => FP.i2d (uA u i))), ((ad 6), aD q 16 (fun i => FP.i2d (uB u i))), ((ad 7), aD q 16 (uF u))]) [0, 1, 2, 3, 4, 5, 6, 7] (by decide) rfl
        have hFc := va_freeP (cx := [((ad 0), .inr (3, [.ref (ad 1), .ref (ad 2), .int (nI (uN u))])), ((ad 2), aF q 6 (fun j => if j < uN u then some (uO u j) else none)), ((ad 1), .inr (1, [.ref (ad 3), .ref (ad 4), .ref (ad 5), .ref (ad 6), .ref (ad 7), .double (uM u), .int (nI (uT u))])), ((ad 3), aI q 8 (uP u)), ((ad 4), aD q 8 (fun i => FP.i2d (uX u i))), ((ad 5), aD q 16 (fun i => FP.i2d (uA u i))), ((ad 6), aD q 16 (fun i => FP.i2d (uB u i))), ((ad 7), aD q 16 (uF u))]) hD hS hA [0, 1, 2, 3, 4, 5, 6, 7] rfl
        refine va_calllD hd0 (swd_run (As := [.ref (ad 0), .int ((lowV (v >>> (5 &&& 31)) 9) - 1), .int (v >>> (9 &&& 31))]) (rest := []) ⟨hx, hb, hml, hown, (dr_words hts s.drawn)⟩ (h_count hst ((lowV (v >>> (5 &&& 31)) 9) - 1) (v >>> (9 &&& 31)) G q H.size ad V u hu) (vx_cwSW 3 (dr_words hts s.drawn) gL_act_L_count rfl rfl rfl (by decide +kernel) ⟨Nat.le_of_ble_eq_true rfl, Nat.le_of_ble_eq_true rfl⟩) ⟨preY_blind, preY_start (s := s.setDrawn s.drawn) hPc hK hDc (hNF.drawn s.drawn) (hNT.drawn s.drawn) (hNC.drawn s.drawn) hS (fun q h => hFc q h)⟩ rfl rfl hl.1 rfl (lv_room (Nat.le_of_ble_eq_true rfl)) dL_act_431 ⟨(by show _ ≤ 11; omega), (by show _ ≤ 73; omega)⟩) hS (fun q _ h => hFc q h) hFc (fun r1 u9 t9 H1 locs ht9 hv99 hw hB9 hz9 hk9 hS du38 hu38 => ?_)
        obtain ⟨u1, rfl⟩ : ∃ z, z = u9 := ⟨_, rfl⟩
        obtain ⟨hP1, hD1⟩ := hB9
        rw [ht9] at hP1
        obtain ⟨hP, hD⟩ := va_joinP (wr := []) (rx := [((ad 0), .inr (3, [.ref (ad 1), .ref (ad 2), .int (nI (uN u1))])), ((ad 2), aF q 6 (fun j => if j < uN u1 then some (uO u1 j) else none)), ((ad 1), .inr (1, [.ref (ad 3), .ref (ad 4), .ref (ad 5), .ref (ad 6), .ref (ad 7), .double (uM u1), .int (nI (uT u1))])), ((ad 3), aI q 8 (uP u1)), ((ad 4), aD q 8 (fun i => FP.i2d (uX u1 i))), ((ad 5), aD q 16 (fun i => FP.i2d (uA u1 i))), ((ad 6), aD q 16 (fun i => FP.i2d (uB u1 i))), ((ad 7), aD q 16 (uF u1))]) (pl1 := TW (uN u1) (WQ q (uC u1))) hP hD [0, 1, 2, 3, 4, 5, 6, 7] [] rfl rfl (by decide) (by decide) hk9 hFc hP1 hD1
        generalize H1 = H at hP hS ⊢
        have hP : va_P G vwCl ([((ad 0), .inr (3, [.ref (ad 1), .ref (ad 2), .int (nI (uN u1))])), ((ad 2), aF q 6 (fun j => if j < uN u1 then some (uO u1 j) else none)), ((ad 1), .inr (1, [.ref (ad 3), .ref (ad 4), .ref (ad 5), .ref (ad 6), .ref (ad 7), .double (uM u1), .int (nI (uT u1))])), ((ad 3), aI q 8 (uP u1)), ((ad 4), aD q 8 (fun i => FP.i2d (uX u1 i))), ((ad 5), aD q 16 (fun i => FP.i2d (uA u1 i))), ((ad 6), aD q 16 (fun i => FP.i2d (uB u1 i))), ((ad 7), aD q 16 (uF u1))] ++ TW (uN u1) (WQ q (uC u1))) H := hP
        have hD : va_D A ([((ad 0), .inr (3, [.ref (ad 1), .ref (ad 2), .int (nI (uN u1))])), ((ad 2), aF q 6 (fun j => if j < uN u1 then some (uO u1 j) else none)), ((ad 1), .inr (1, [.ref (ad 3), .ref (ad 4), .ref (ad 5), .ref (ad 6), .ref (ad 7), .double (uM u1), .int (nI (uT u1))])), ((ad 3), aI q 8 (uP u1)), ((ad 4), aD q 8 (fun i => FP.i2d (uX u1 i))), ((ad 5), aD q 16 (fun i => FP.i2d (uA u1 i))), ((ad 6), aD q 16 (fun i => FP.i2d (uB u1 i))), ((ad 7), aD q 16 (uF u1))] ++ TW (uN u1) (WQ q (uC u1))) := hD
        have hA : vAct v V = vCount ((lowV (v >>> (5 &&& 31)) 9) - 1) (v >>> (9 &&& 31)) V := by unfold vAct; rw [if_pos hcnd1]; unfold actO; rw [← hcs]; rw [selV_8]; rw [if_neg hcnd2]
        rw [← hA] at hw
        refine W.widen (k := 11) (n := 73) (Nat.le_of_ble_eq_true rfl) (Nat.le_of_ble_eq_true rfl) ?_
        have hP9 := hP
        have hD9 := hD
        refine W.endD hu38 ?_
        exact W.lret (v := r1) hx hb hr (fun t ht hW => ⟨⟨r1, u1, rfl, hw, by rw [ht]; exact hP9, hD9⟩, hS.F ht⟩) hS.2.2 dL_act_434
    · skip
      refine lv_tableIn (off := 303) (tgt := 435) hx hb dL_act_132 (by decide) (by decide) (by decide) (by decide) ?_
      refine lv_aload_n hx hb dL_act_435 rfl (lv_at hl 5 rfl) ?_
      refine lv_iload hx hb dL_act_436 (lv_at hl 1 rfl) ?_
      refine lv_iload_n hx hb dL_act_438 rfl (lv_at hl 4 rfl) ?_
      refine lv_if_eq (tgt := 448) hx hb dL_act_439 (by decide) (fun h => absurd h (by decide)) (fun _ => ?_)
      refine lv_iload_n hx hb dL_act_442 rfl (lv_at hl 6 rfl) ?_
      refine lv_iconst (v := 4) hx hb dL_act_443 (by decide) ?_
      refine lv_ishr hx hb dL_act_444 ?_
      refine lv_goto (tgt := 476) hx hb dL_act_445 (by decide) ?_
      have hPc := hP.part (cx := [((ad 0), .inr (3, [.ref (ad 1), .ref (ad 2), .int (nI (uN u))])), ((ad 2), aF q 6 (fun j => if j < uN u then some (uO u j) else none)), ((ad 1), .inr (1, [.ref (ad 3), .ref (ad 4), .ref (ad 5), .ref (ad 6), .ref (ad 7), .double (uM u), .int (nI (uT u))])), ((ad 3), aI q 8 (uP u)), ((ad 4), aD q 8 (fun i => FP.i2d (uX u i))), ((ad 5), aD q 16 (fun i => FP.i2d (uA u i))), ((ad 6), aD q 16 (fun i => FP.i2d (uB u i))), ((ad 7), aD q 16 (uF u))]) [0, 1, 2, 3, 4, 5, 6, 7] rfl
      have hDc := hD.part (cx := [((ad 0), .inr (3, [.ref (ad 1), .ref (ad 2), .int (nI (uN u))])), ((ad 2), aF q 6 (fun j => if j < uN u then some (uO u j) else none)), ((ad 1), .inr (1, [.ref (ad 3), .ref (ad 4), .ref (ad 5), .ref (ad 6), .ref (ad 7), .double (uM u), .int (nI (uT u))])), ((ad 3), aI q 8 (uP u)), ((ad 4), aD q 8 (fun i => FP.i2d (uX u i))), ((ad 5), aD q 16 (fun i => FP.i2d (uA u i))), ((ad 6), aD q 16 (fun i => FP.i2d (uB u i))), ((ad 7), aD q 16 (uF u))]) [0, 1, 2, 3, 4, 5, 6, 7] (by decide) rfl
      have hFc := va_freeP (cx := [((ad 0), .inr (3, [.ref (ad 1), .ref (ad 2), .int (nI (uN u))])), ((ad 2), aF q 6 (fun j => if j < uN u then some (uO u j) else none)), ((ad 1), .inr (1, [.ref (ad 3), .ref (ad 4), .ref (ad 5), .ref (ad 6), .ref (ad 7), .double (uM u), .int (nI (uT u))])), ((ad 3), aI q 8 (uP u)), ((ad 4), aD q 8 (fun i => FP.i2d (uX u i))), ((ad 5), aD q 16 (fun i => FP.i2d (uA u i))), ((ad 6), aD q 16 (fun i => FP.i2d (uB u i))), ((ad 7), aD q 16 (uF u))]) hD hS hA [0, 1, 2, 3, 4, 5, 6, 7] rfl
      refine va_calllD hd0 (swd_run (As := [.ref (ad 0), .int (v >>> (9 &&& 31)), .int (v >>> (4 &&& 31))]) (rest := []) ⟨hx, hb, hml, hown, (dr_words hts s.drawn)⟩ (h_feed hst (v >>> (9 &&& 31)) (v >>> (4 &&& 31)) G q H.size ad V u hu) (vx_cwSW 3 (dr_words hts s.drawn) gL_act_L_feed rfl rfl rfl (by decide +kernel) ⟨Nat.le_of_ble_eq_true rfl, Nat.le_of_ble_eq_true rfl⟩) ⟨preY_blind, preY_start (s := s.setDrawn s.drawn) hPc hK hDc (hNF.drawn s.drawn) (hNT.drawn s.drawn) (hNC.drawn s.drawn) hS (fun q h => hFc q h)⟩ rfl rfl hl.1 rfl (lv_room (Nat.le_of_ble_eq_true rfl)) dL_act_476 ⟨(by show _ ≤ 11; omega), (by show _ ≤ 73; omega)⟩) hS (fun q _ h => hFc q h) hFc (fun r1 u9 t9 H1 locs ht9 hv99 hw hB9 hz9 hk9 hS du40 hu40 => ?_)
      obtain ⟨u1, rfl⟩ : ∃ z, z = u9 := ⟨_, rfl⟩
      obtain ⟨hP1, hD1⟩ := hB9
      rw [ht9] at hP1
      obtain ⟨hP, hD⟩ := va_joinP (wr := []) (rx := [((ad 0), .inr (3, [.ref (ad 1), .ref (ad 2), .int (nI (uN u1))])), ((ad 2), aF q 6 (fun j => if j < uN u1 then some (uO u1 j) else none)), ((ad 1), .inr (1, [.ref (ad 3), .ref (ad 4), .ref (ad 5), .ref (ad 6), .ref (ad 7), .double (uM u1), .int (nI (uT u1))])), ((ad 3), aI q 8 (uP u1)), ((ad 4), aD q 8 (fun i => FP.i2d (uX u1 i))), ((ad 5), aD q 16 (fun i => FP.i2d (uA u1 i))), ((ad 6), aD q 16 (fun i => FP.i2d (uB u1 i))), ((ad 7), aD q 16 (uF u1))]) (pl1 := TW (uN u1) (WQ q (uC u1))) hP hD [0, 1, 2, 3, 4, 5, 6, 7] [] rfl rfl (by decide) (by decide) hk9 hFc hP1 hD1
      generalize H1 = H at hP hS ⊢
      have hP : va_P G vwCl ([((ad 0), .inr (3, [.ref (ad 1), .ref (ad 2), .int (nI (uN u1))])), ((ad 2), aF q 6 (fun j => if j < uN u1 then some (uO u1 j) else none)), ((ad 1), .inr (1, [.ref (ad 3), .ref (ad 4), .ref (ad 5), .ref (ad 6), .ref (ad 7), .double (uM u1), .int (nI (uT u1))])), ((ad 3), aI q 8 (uP u1)), ((ad 4), aD q 8 (fun i => FP.i2d (uX u1 i))), ((ad 5), aD q 16 (fun i => FP.i2d (uA u1 i))), ((ad 6), aD q 16 (fun i => FP.i2d (uB u1 i))), ((ad 7), aD q 16 (uF u1))] ++ TW (uN u1) (WQ q (uC u1))) H := hP
      have hD : va_D A ([((ad 0), .inr (3, [.ref (ad 1), .ref (ad 2), .int (nI (uN u1))])), ((ad 2), aF q 6 (fun j => if j < uN u1 then some (uO u1 j) else none)), ((ad 1), .inr (1, [.ref (ad 3), .ref (ad 4), .ref (ad 5), .ref (ad 6), .ref (ad 7), .double (uM u1), .int (nI (uT u1))])), ((ad 3), aI q 8 (uP u1)), ((ad 4), aD q 8 (fun i => FP.i2d (uX u1 i))), ((ad 5), aD q 16 (fun i => FP.i2d (uA u1 i))), ((ad 6), aD q 16 (fun i => FP.i2d (uB u1 i))), ((ad 7), aD q 16 (uF u1))] ++ TW (uN u1) (WQ q (uC u1))) := hD
      have hA : vAct v V = vFeed (v >>> (9 &&& 31)) (v >>> (4 &&& 31)) V := by unfold vAct; rw [if_pos hcnd1]; unfold actO; rw [← hcs]; rw [selV_9]
      rw [← hA] at hw
      refine W.widen (k := 11) (n := 73) (Nat.le_of_ble_eq_true rfl) (Nat.le_of_ble_eq_true rfl) ?_
      have hP9 := hP
      have hD9 := hD
      refine W.endD hu40 ?_
      exact W.lret (v := r1) hx hb hr (fun t ht hW => ⟨⟨r1, u1, rfl, hw, by rw [ht]; exact hP9, hD9⟩, hS.F ht⟩) hS.2.2 dL_act_479
    · skip
      refine lv_tableIn (off := 303) (tgt := 435) hx hb dL_act_132 (by decide) (by decide) (by decide) (by decide) ?_
      refine lv_aload_n hx hb dL_act_435 rfl (lv_at hl 5 rfl) ?_
      refine lv_iload hx hb dL_act_436 (lv_at hl 1 rfl) ?_
      refine lv_iload_n hx hb dL_act_438 rfl (lv_at hl 4 rfl) ?_
      refine lv_if_eq (tgt := 448) hx hb dL_act_439 (by decide) (fun h => absurd h (by decide)) (fun _ => ?_)
      refine lv_iload_n hx hb dL_act_442 rfl (lv_at hl 6 rfl) ?_
      refine lv_iconst (v := 4) hx hb dL_act_443 (by decide) ?_
      refine lv_ishr hx hb dL_act_444 ?_
      refine lv_goto (tgt := 476) hx hb dL_act_445 (by decide) ?_
      have hPc := hP.part (cx := [((ad 0), .inr (3, [.ref (ad 1), .ref (ad 2), .int (nI (uN u))])), ((ad 2), aF q 6 (fun j => if j < uN u then some (uO u j) else none)), ((ad 1), .inr (1, [.ref (ad 3), .ref (ad 4), .ref (ad 5), .ref (ad 6), .ref (ad 7), .double (uM u), .int (nI (uT u))])), ((ad 3), aI q 8 (uP u)), ((ad 4), aD q 8 (fun i => FP.i2d (uX u i))), ((ad 5), aD q 16 (fun i => FP.i2d (uA u i))), ((ad 6), aD q 16 (fun i => FP.i2d (uB u i))), ((ad 7), aD q 16 (uF u))]) [0, 1, 2, 3, 4, 5, 6, 7] rfl
      have hDc := hD.part (cx := [((ad 0), .inr (3, [.ref (ad 1), .ref (ad 2), .int (nI (uN u))])), ((ad 2), aF q 6 (fun j => if j < uN u then some (uO u j) else none)), ((ad 1), .inr (1, [.ref (ad 3), .ref (ad 4), .ref (ad 5), .ref (ad 6), .ref (ad 7), .double (uM u), .int (nI (uT u))])), ((ad 3), aI q 8 (uP u)), ((ad 4), aD q 8 (fun i => FP.i2d (uX u i))), ((ad 5), aD q 16 (fun i => FP.i2d (uA u i))), ((ad 6), aD q 16 (fun i => FP.i2d (uB u i))), ((ad 7), aD q 16 (uF u))]) [0, 1, 2, 3, 4, 5, 6, 7] (by decide) rfl
      have hFc := va_freeP (cx := [((ad 0), .inr (3, [.ref (ad 1), .ref (ad 2), .int (nI (uN u))])), ((ad 2), aF q 6 (fun j => if j < uN u then some (uO u j) else none)), ((ad 1), .inr (1, [.ref (ad 3), .ref (ad 4), .ref (ad 5), .ref (ad 6), .ref (ad 7), .double (uM u), .int (nI (uT u))])), ((ad 3), aI q 8 (uP u)), ((ad 4), aD q 8 (fun i => FP.i2d (uX u i))), ((ad 5), aD q 16 (fun i => FP.i2d (uA u i))), ((ad 6), aD q 16 (fun i => FP.i2d (uB u i))), ((ad 7), aD q 16 (uF u))]) hD hS hA [0, 1, 2, 3, 4, 5, 6, 7] rfl
      refine va_calllD hd0 (swd_run (As := [.ref (ad 0), .int (v >>> (9 &&& 31)), .int (v >>> (4 &&& 31))]) (rest := []) ⟨hx, hb, hml, hown, (dr_words hts s.drawn)⟩ (h_feed hst (v >>> (9 &&& 31)) (v >>> (4 &&& 31)) G q H.size ad V u hu) (vx_cwSW 3 (dr_words hts s.drawn) gL_act_L_feed rfl rfl rfl (by decide +kernel) ⟨Nat.le_of_ble_eq_true rfl, Nat.le_of_ble_eq_true rfl⟩) ⟨preY_blind, preY_start (s := s.setDrawn s.drawn) hPc hK hDc (hNF.drawn s.drawn) (hNT.drawn s.drawn) (hNC.drawn s.drawn) hS (fun q h => hFc q h)⟩ rfl rfl hl.1 rfl (lv_room (Nat.le_of_ble_eq_true rfl)) dL_act_476 ⟨(by show _ ≤ 11; omega), (by show _ ≤ 73; omega)⟩) hS (fun q _ h => hFc q h) hFc (fun r1 u9 t9 H1 locs ht9 hv99 hw hB9 hz9 hk9 hS du42 hu42 => ?_)
      obtain ⟨u1, rfl⟩ : ∃ z, z = u9 := ⟨_, rfl⟩
      obtain ⟨hP1, hD1⟩ := hB9
      rw [ht9] at hP1
      obtain ⟨hP, hD⟩ := va_joinP (wr := []) (rx := [((ad 0), .inr (3, [.ref (ad 1), .ref (ad 2), .int (nI (uN u1))])), ((ad 2), aF q 6 (fun j => if j < uN u1 then some (uO u1 j) else none)), ((ad 1), .inr (1, [.ref (ad 3), .ref (ad 4), .ref (ad 5), .ref (ad 6), .ref (ad 7), .double (uM u1), .int (nI (uT u1))])), ((ad 3), aI q 8 (uP u1)), ((ad 4), aD q 8 (fun i => FP.i2d (uX u1 i))), ((ad 5), aD q 16 (fun i => FP.i2d (uA u1 i))), ((ad 6), aD q 16 (fun i => FP.i2d (uB u1 i))), ((ad 7), aD q 16 (uF u1))]) (pl1 := TW (uN u1) (WQ q (uC u1))) hP hD [0, 1, 2, 3, 4, 5, 6, 7] [] rfl rfl (by decide) (by decide) hk9 hFc hP1 hD1
      generalize H1 = H at hP hS ⊢
      have hP : va_P G vwCl ([((ad 0), .inr (3, [.ref (ad 1), .ref (ad 2), .int (nI (uN u1))])), ((ad 2), aF q 6 (fun j => if j < uN u1 then some (uO u1 j) else none)), ((ad 1), .inr (1, [.ref (ad 3), .ref (ad 4), .ref (ad 5), .ref (ad 6), .ref (ad 7), .double (uM u1), .int (nI (uT u1))])), ((ad 3), aI q 8 (uP u1)), ((ad 4), aD q 8 (fun i => FP.i2d (uX u1 i))), ((ad 5), aD q 16 (fun i => FP.i2d (uA u1 i))), ((ad 6), aD q 16 (fun i => FP.i2d (uB u1 i))), ((ad 7), aD q 16 (uF u1))] ++ TW (uN u1) (WQ q (uC u1))) H := hP
      have hD : va_D A ([((ad 0), .inr (3, [.ref (ad 1), .ref (ad 2), .int (nI (uN u1))])), ((ad 2), aF q 6 (fun j => if j < uN u1 then some (uO u1 j) else none)), ((ad 1), .inr (1, [.ref (ad 3), .ref (ad 4), .ref (ad 5), .ref (ad 6), .ref (ad 7), .double (uM u1), .int (nI (uT u1))])), ((ad 3), aI q 8 (uP u1)), ((ad 4), aD q 8 (fun i => FP.i2d (uX u1 i))), ((ad 5), aD q 16 (fun i => FP.i2d (uA u1 i))), ((ad 6), aD q 16 (fun i => FP.i2d (uB u1 i))), ((ad 7), aD q 16 (uF u1))] ++ TW (uN u1) (WQ q (uC u1))) := hD
      have hA : vAct v V = vFeed (v >>> (9 &&& 31)) (v >>> (4 &&& 31)) V := by unfold vAct; rw [if_pos hcnd1]; unfold actO; rw [← hcs]; rw [selV_10]
      rw [← hA] at hw
      refine W.widen (k := 11) (n := 73) (Nat.le_of_ble_eq_true rfl) (Nat.le_of_ble_eq_true rfl) ?_
      have hP9 := hP
      have hD9 := hD
      refine W.endD hu42 ?_
      exact W.lret (v := r1) hx hb hr (fun t ht hW => ⟨⟨r1, u1, rfl, hw, by rw [ht]; exact hP9, hD9⟩, hS.F ht⟩) hS.2.2 dL_act_479
    · skip
      refine lv_tableIn (off := 303) (tgt := 435) hx hb dL_act_132 (by decide) (by decide) (by decide) (by decide) ?_
      refine lv_aload_n hx hb dL_act_435 rfl (lv_at hl 5 rfl) ?_
      refine lv_iload hx hb dL_act_436 (lv_at hl 1 rfl) ?_
      refine lv_iload_n hx hb dL_act_438 rfl (lv_at hl 4 rfl) ?_
      refine lv_if_eq (tgt := 448) hx hb dL_act_439 (by decide) (fun h => absurd h (by decide)) (fun _ => ?_)
      refine lv_iload_n hx hb dL_act_442 rfl (lv_at hl 6 rfl) ?_
      refine lv_iconst (v := 4) hx hb dL_act_443 (by decide) ?_
      refine lv_ishr hx hb dL_act_444 ?_
      refine lv_goto (tgt := 476) hx hb dL_act_445 (by decide) ?_
      have hPc := hP.part (cx := [((ad 0), .inr (3, [.ref (ad 1), .ref (ad 2), .int (nI (uN u))])), ((ad 2), aF q 6 (fun j => if j < uN u then some (uO u j) else none)), ((ad 1), .inr (1, [.ref (ad 3), .ref (ad 4), .ref (ad 5), .ref (ad 6), .ref (ad 7), .double (uM u), .int (nI (uT u))])), ((ad 3), aI q 8 (uP u)), ((ad 4), aD q 8 (fun i => FP.i2d (uX u i))), ((ad 5), aD q 16 (fun i => FP.i2d (uA u i))), ((ad 6), aD q 16 (fun i => FP.i2d (uB u i))), ((ad 7), aD q 16 (uF u))]) [0, 1, 2, 3, 4, 5, 6, 7] rfl
      have hDc := hD.part (cx := [((ad 0), .inr (3, [.ref (ad 1), .ref (ad 2), .int (nI (uN u))])), ((ad 2), aF q 6 (fun j => if j < uN u then some (uO u j) else none)), ((ad 1), .inr (1, [.ref (ad 3), .ref (ad 4), .ref (ad 5), .ref (ad 6), .ref (ad 7), .double (uM u), .int (nI (uT u))])), ((ad 3), aI q 8 (uP u)), ((ad 4), aD q 8 (fun i => FP.i2d (uX u i))), ((ad 5), aD q 16 (fun i => FP.i2d (uA u i))), ((ad 6), aD q 16 (fun i => FP.i2d (uB u i))), ((ad 7), aD q 16 (uF u))]) [0, 1, 2, 3, 4, 5, 6, 7] (by decide) rfl
      have hFc := va_freeP (cx := [((ad 0), .inr (3, [.ref (ad 1), .ref (ad 2), .int (nI (uN u))])), ((ad 2), aF q 6 (fun j => if j < uN u then some (uO u j) else none)), ((ad 1), .inr (1, [.ref (ad 3), .ref (ad 4), .ref (ad 5), .ref (ad 6), .ref (ad 7), .double (uM u), .int (nI (uT u))])), ((ad 3), aI q 8 (uP u)), ((ad 4), aD q 8 (fun i => FP.i2d (uX u i))), ((ad 5), aD q 16 (fun i => FP.i2d (uA u i))), ((ad 6), aD q 16 (fun i => FP.i2d (uB u i))), ((ad 7), aD q 16 (uF u))]) hD hS hA [0, 1, 2, 3, 4, 5, 6, 7] rfl
      refine va_calllD hd0 (swd_run (As := [.ref (ad 0), .int (v >>> (9 &&& 31)), .int (v >>> (4 &&& 31))]) (rest := []) ⟨hx, hb, hml, hown, (dr_words hts s.drawn)⟩ (h_feed hst (v >>> (9 &&& 31)) (v >>> (4 &&& 31)) G q H.size ad V u hu) (vx_cwSW 3 (dr_words hts s.drawn) gL_act_L_feed rfl rfl rfl (by decide +kernel) ⟨Nat.le_of_ble_eq_true rfl, Nat.le_of_ble_eq_true rfl⟩) ⟨preY_blind, preY_start (s := s.setDrawn s.drawn) hPc hK hDc (hNF.drawn s.drawn) (hNT.drawn s.drawn) (hNC.drawn s.drawn) hS (fun q h => hFc q h)⟩ rfl rfl hl.1 rfl (lv_room (Nat.le_of_ble_eq_true rfl)) dL_act_476 ⟨(by show _ ≤ 11; omega), (by show _ ≤ 73; omega)⟩) hS (fun q _ h => hFc q h) hFc (fun r1 u9 t9 H1 locs ht9 hv99 hw hB9 hz9 hk9 hS du44 hu44 => ?_)
      obtain ⟨u1, rfl⟩ : ∃ z, z = u9 := ⟨_, rfl⟩
      obtain ⟨hP1, hD1⟩ := hB9
      rw [ht9] at hP1
      obtain ⟨hP, hD⟩ := va_joinP (wr := []) (rx := [((ad 0), .inr (3, [.ref (ad 1), .ref (ad 2), .int (nI (uN u1))])), ((ad 2), aF q 6 (fun j => if j < uN u1 then some (uO u1 j) else none)), ((ad 1), .inr (1, [.ref (ad 3), .ref (ad 4), .ref (ad 5), .ref (ad 6), .ref (ad 7), .double (uM u1), .int (nI (uT u1))])), ((ad 3), aI q 8 (uP u1)), ((ad 4), aD q 8 (fun i => FP.i2d (uX u1 i))), ((ad 5), aD q 16 (fun i => FP.i2d (uA u1 i))), ((ad 6), aD q 16 (fun i => FP.i2d (uB u1 i))), ((ad 7), aD q 16 (uF u1))]) (pl1 := TW (uN u1) (WQ q (uC u1))) hP hD [0, 1, 2, 3, 4, 5, 6, 7] [] rfl rfl (by decide) (by decide) hk9 hFc hP1 hD1
      generalize H1 = H at hP hS ⊢
      have hP : va_P G vwCl ([((ad 0), .inr (3, [.ref (ad 1), .ref (ad 2), .int (nI (uN u1))])), ((ad 2), aF q 6 (fun j => if j < uN u1 then some (uO u1 j) else none)), ((ad 1), .inr (1, [.ref (ad 3), .ref (ad 4), .ref (ad 5), .ref (ad 6), .ref (ad 7), .double (uM u1), .int (nI (uT u1))])), ((ad 3), aI q 8 (uP u1)), ((ad 4), aD q 8 (fun i => FP.i2d (uX u1 i))), ((ad 5), aD q 16 (fun i => FP.i2d (uA u1 i))), ((ad 6), aD q 16 (fun i => FP.i2d (uB u1 i))), ((ad 7), aD q 16 (uF u1))] ++ TW (uN u1) (WQ q (uC u1))) H := hP
      have hD : va_D A ([((ad 0), .inr (3, [.ref (ad 1), .ref (ad 2), .int (nI (uN u1))])), ((ad 2), aF q 6 (fun j => if j < uN u1 then some (uO u1 j) else none)), ((ad 1), .inr (1, [.ref (ad 3), .ref (ad 4), .ref (ad 5), .ref (ad 6), .ref (ad 7), .double (uM u1), .int (nI (uT u1))])), ((ad 3), aI q 8 (uP u1)), ((ad 4), aD q 8 (fun i => FP.i2d (uX u1 i))), ((ad 5), aD q 16 (fun i => FP.i2d (uA u1 i))), ((ad 6), aD q 16 (fun i => FP.i2d (uB u1 i))), ((ad 7), aD q 16 (uF u1))] ++ TW (uN u1) (WQ q (uC u1))) := hD
      have hA : vAct v V = vFeed (v >>> (9 &&& 31)) (v >>> (4 &&& 31)) V := by unfold vAct; rw [if_pos hcnd1]; unfold actO; rw [← hcs]; rw [selV_11]
      rw [← hA] at hw
      refine W.widen (k := 11) (n := 73) (Nat.le_of_ble_eq_true rfl) (Nat.le_of_ble_eq_true rfl) ?_
      have hP9 := hP
      have hD9 := hD
      refine W.endD hu44 ?_
      exact W.lret (v := r1) hx hb hr (fun t ht hW => ⟨⟨r1, u1, rfl, hw, by rw [ht]; exact hP9, hD9⟩, hS.F ht⟩) hS.2.2 dL_act_479
    · skip
      refine lv_tableIn (off := 303) (tgt := 435) hx hb dL_act_132 (by decide) (by decide) (by decide) (by decide) ?_
      refine lv_aload_n hx hb dL_act_435 rfl (lv_at hl 5 rfl) ?_
      refine lv_iload hx hb dL_act_436 (lv_at hl 1 rfl) ?_
      refine lv_iload_n hx hb dL_act_438 rfl (lv_at hl 4 rfl) ?_
      refine lv_if_eq (tgt := 448) hx hb dL_act_439 (by decide) (fun h => absurd h (by decide)) (fun _ => ?_)
      refine lv_iload_n hx hb dL_act_442 rfl (lv_at hl 6 rfl) ?_
      refine lv_iconst (v := 4) hx hb dL_act_443 (by decide) ?_
      refine lv_ishr hx hb dL_act_444 ?_
      refine lv_goto (tgt := 476) hx hb dL_act_445 (by decide) ?_
      have hPc := hP.part (cx := [((ad 0), .inr (3, [.ref (ad 1), .ref (ad 2), .int (nI (uN u))])), ((ad 2), aF q 6 (fun j => if j < uN u then some (uO u j) else none)), ((ad 1), .inr (1, [.ref (ad 3), .ref (ad 4), .ref (ad 5), .ref (ad 6), .ref (ad 7), .double (uM u), .int (nI (uT u))])), ((ad 3), aI q 8 (uP u)), ((ad 4), aD q 8 (fun i => FP.i2d (uX u i))), ((ad 5), aD q 16 (fun i => FP.i2d (uA u i))), ((ad 6), aD q 16 (fun i => FP.i2d (uB u i))), ((ad 7), aD q 16 (uF u))]) [0, 1, 2, 3, 4, 5, 6, 7] rfl
      have hDc := hD.part (cx := [((ad 0), .inr (3, [.ref (ad 1), .ref (ad 2), .int (nI (uN u))])), ((ad 2), aF q 6 (fun j => if j < uN u then some (uO u j) else none)), ((ad 1), .inr (1, [.ref (ad 3), .ref (ad 4), .ref (ad 5), .ref (ad 6), .ref (ad 7), .double (uM u), .int (nI (uT u))])), ((ad 3), aI q 8 (uP u)), ((ad 4), aD q 8 (fun i => FP.i2d (uX u i))), ((ad 5), aD q 16 (fun i => FP.i2d (uA u i))), ((ad 6), aD q 16 (fun i => FP.i2d (uB u i))), ((ad 7), aD q 16 (uF u))]) [0, 1, 2, 3, 4, 5, 6, 7] (by decide) rfl
      have hFc := va_freeP (cx := [((ad 0), .inr (3, [.ref (ad 1), .ref (ad 2), .int (nI (uN u))])), ((ad 2), aF q 6 (fun j => if j < uN u then some (uO u j) else none)), ((ad 1), .inr (1, [.ref (ad 3), .ref (ad 4), .ref (ad 5), .ref (ad 6), .ref (ad 7), .double (uM u), .int (nI (uT u))])), ((ad 3), aI q 8 (uP u)), ((ad 4), aD q 8 (fun i => FP.i2d (uX u i))), ((ad 5), aD q 16 (fun i => FP.i2d (uA u i))), ((ad 6), aD q 16 (fun i => FP.i2d (uB u i))), ((ad 7), aD q 16 (uF u))]) hD hS hA [0, 1, 2, 3, 4, 5, 6, 7] rfl
      refine va_calllD hd0 (swd_run (As := [.ref (ad 0), .int (v >>> (9 &&& 31)), .int (v >>> (4 &&& 31))]) (rest := []) ⟨hx, hb, hml, hown, (dr_words hts s.drawn)⟩ (h_feed hst (v >>> (9 &&& 31)) (v >>> (4 &&& 31)) G q H.size ad V u hu) (vx_cwSW 3 (dr_words hts s.drawn) gL_act_L_feed rfl rfl rfl (by decide +kernel) ⟨Nat.le_of_ble_eq_true rfl, Nat.le_of_ble_eq_true rfl⟩) ⟨preY_blind, preY_start (s := s.setDrawn s.drawn) hPc hK hDc (hNF.drawn s.drawn) (hNT.drawn s.drawn) (hNC.drawn s.drawn) hS (fun q h => hFc q h)⟩ rfl rfl hl.1 rfl (lv_room (Nat.le_of_ble_eq_true rfl)) dL_act_476 ⟨(by show _ ≤ 11; omega), (by show _ ≤ 73; omega)⟩) hS (fun q _ h => hFc q h) hFc (fun r1 u9 t9 H1 locs ht9 hv99 hw hB9 hz9 hk9 hS du46 hu46 => ?_)
      obtain ⟨u1, rfl⟩ : ∃ z, z = u9 := ⟨_, rfl⟩
      obtain ⟨hP1, hD1⟩ := hB9
      rw [ht9] at hP1
      obtain ⟨hP, hD⟩ := va_joinP (wr := []) (rx := [((ad 0), .inr (3, [.ref (ad 1), .ref (ad 2), .int (nI (uN u1))])), ((ad 2), aF q 6 (fun j => if j < uN u1 then some (uO u1 j) else none)), ((ad 1), .inr (1, [.ref (ad 3), .ref (ad 4), .ref (ad 5), .ref (ad 6), .ref (ad 7), .double (uM u1), .int (nI (uT u1))])), ((ad 3), aI q 8 (uP u1)), ((ad 4), aD q 8 (fun i => FP.i2d (uX u1 i))), ((ad 5), aD q 16 (fun i => FP.i2d (uA u1 i))), ((ad 6), aD q 16 (fun i => FP.i2d (uB u1 i))), ((ad 7), aD q 16 (uF u1))]) (pl1 := TW (uN u1) (WQ q (uC u1))) hP hD [0, 1, 2, 3, 4, 5, 6, 7] [] rfl rfl (by decide) (by decide) hk9 hFc hP1 hD1
      generalize H1 = H at hP hS ⊢
      have hP : va_P G vwCl ([((ad 0), .inr (3, [.ref (ad 1), .ref (ad 2), .int (nI (uN u1))])), ((ad 2), aF q 6 (fun j => if j < uN u1 then some (uO u1 j) else none)), ((ad 1), .inr (1, [.ref (ad 3), .ref (ad 4), .ref (ad 5), .ref (ad 6), .ref (ad 7), .double (uM u1), .int (nI (uT u1))])), ((ad 3), aI q 8 (uP u1)), ((ad 4), aD q 8 (fun i => FP.i2d (uX u1 i))), ((ad 5), aD q 16 (fun i => FP.i2d (uA u1 i))), ((ad 6), aD q 16 (fun i => FP.i2d (uB u1 i))), ((ad 7), aD q 16 (uF u1))] ++ TW (uN u1) (WQ q (uC u1))) H := hP
      have hD : va_D A ([((ad 0), .inr (3, [.ref (ad 1), .ref (ad 2), .int (nI (uN u1))])), ((ad 2), aF q 6 (fun j => if j < uN u1 then some (uO u1 j) else none)), ((ad 1), .inr (1, [.ref (ad 3), .ref (ad 4), .ref (ad 5), .ref (ad 6), .ref (ad 7), .double (uM u1), .int (nI (uT u1))])), ((ad 3), aI q 8 (uP u1)), ((ad 4), aD q 8 (fun i => FP.i2d (uX u1 i))), ((ad 5), aD q 16 (fun i => FP.i2d (uA u1 i))), ((ad 6), aD q 16 (fun i => FP.i2d (uB u1 i))), ((ad 7), aD q 16 (uF u1))] ++ TW (uN u1) (WQ q (uC u1))) := hD
      have hA : vAct v V = vFeed (v >>> (9 &&& 31)) (v >>> (4 &&& 31)) V := by unfold vAct; rw [if_pos hcnd1]; unfold actO; rw [← hcs]; rw [selV_12]
      rw [← hA] at hw
      refine W.widen (k := 11) (n := 73) (Nat.le_of_ble_eq_true rfl) (Nat.le_of_ble_eq_true rfl) ?_
      have hP9 := hP
      have hD9 := hD
      refine W.endD hu46 ?_
      exact W.lret (v := r1) hx hb hr (fun t ht hW => ⟨⟨r1, u1, rfl, hw, by rw [ht]; exact hP9, hD9⟩, hS.F ht⟩) hS.2.2 dL_act_479
    · skip
      refine lv_tableIn (off := 303) (tgt := 435) hx hb dL_act_132 (by decide) (by decide) (by decide) (by decide) ?_
      refine lv_aload_n hx hb dL_act_435 rfl (lv_at hl 5 rfl) ?_
      refine lv_iload hx hb dL_act_436 (lv_at hl 1 rfl) ?_
      refine lv_iload_n hx hb dL_act_438 rfl (lv_at hl 4 rfl) ?_
      refine lv_if_eq (tgt := 448) hx hb dL_act_439 (by decide) (fun h => absurd h (by decide)) (fun _ => ?_)
      refine lv_iload_n hx hb dL_act_442 rfl (lv_at hl 6 rfl) ?_
      refine lv_iconst (v := 4) hx hb dL_act_443 (by decide) ?_
      refine lv_ishr hx hb dL_act_444 ?_
      refine lv_goto (tgt := 476) hx hb dL_act_445 (by decide) ?_
      have hPc := hP.part (cx := [((ad 0), .inr (3, [.ref (ad 1), .ref (ad 2), .int (nI (uN u))])), ((ad 2), aF q 6 (fun j => if j < uN u then some (uO u j) else none)), ((ad 1), .inr (1, [.ref (ad 3), .ref (ad 4), .ref (ad 5), .ref (ad 6), .ref (ad 7), .double (uM u), .int (nI (uT u))])), ((ad 3), aI q 8 (uP u)), ((ad 4), aD q 8 (fun i => FP.i2d (uX u i))), ((ad 5), aD q 16 (fun i => FP.i2d (uA u i))), ((ad 6), aD q 16 (fun i => FP.i2d (uB u i))), ((ad 7), aD q 16 (uF u))]) [0, 1, 2, 3, 4, 5, 6, 7] rfl
      have hDc := hD.part (cx := [((ad 0), .inr (3, [.ref (ad 1), .ref (ad 2), .int (nI (uN u))])), ((ad 2), aF q 6 (fun j => if j < uN u then some (uO u j) else none)), ((ad 1), .inr (1, [.ref (ad 3), .ref (ad 4), .ref (ad 5), .ref (ad 6), .ref (ad 7), .double (uM u), .int (nI (uT u))])), ((ad 3), aI q 8 (uP u)), ((ad 4), aD q 8 (fun i => FP.i2d (uX u i))), ((ad 5), aD q 16 (fun i => FP.i2d (uA u i))), ((ad 6), aD q 16 (fun i => FP.i2d (uB u i))), ((ad 7), aD q 16 (uF u))]) [0, 1, 2, 3, 4, 5, 6, 7] (by decide) rfl
      have hFc := va_freeP (cx := [((ad 0), .inr (3, [.ref (ad 1), .ref (ad 2), .int (nI (uN u))])), ((ad 2), aF q 6 (fun j => if j < uN u then some (uO u j) else none)), ((ad 1), .inr (1, [.ref (ad 3), .ref (ad 4), .ref (ad 5), .ref (ad 6), .ref (ad 7), .double (uM u), .int (nI (uT u))])), ((ad 3), aI q 8 (uP u)), ((ad 4), aD q 8 (fun i => FP.i2d (uX u i))), ((ad 5), aD q 16 (fun i => FP.i2d (uA u i))), ((ad 6), aD q 16 (fun i => FP.i2d (uB u i))), ((ad 7), aD q 16 (uF u))]) hD hS hA [0, 1, 2, 3, 4, 5, 6, 7] rfl
      refine va_calllD hd0 (swd_run (As := [.ref (ad 0), .int (v >>> (9 &&& 31)), .int (v >>> (4 &&& 31))]) (rest := []) ⟨hx, hb, hml, hown, (dr_words hts s.drawn)⟩ (h_feed hst (v >>> (9 &&& 31)) (v >>> (4 &&& 31)) G q H.size ad V u hu) (vx_cwSW 3 (dr_words hts s.drawn) gL_act_L_feed rfl rfl rfl (by decide +kernel) ⟨Nat.le_of_ble_eq_true rfl, Nat.le_of_ble_eq_true rfl⟩) ⟨preY_blind, preY_start (s := s.setDrawn s.drawn) hPc hK hDc (hNF.drawn s.drawn) (hNT.drawn s.drawn) (hNC.drawn s.drawn) hS (fun q h => hFc q h)⟩ rfl rfl hl.1 rfl (lv_room (Nat.le_of_ble_eq_true rfl)) dL_act_476 ⟨(by show _ ≤ 11; omega), (by show _ ≤ 73; omega)⟩) hS (fun q _ h => hFc q h) hFc (fun r1 u9 t9 H1 locs ht9 hv99 hw hB9 hz9 hk9 hS du48 hu48 => ?_)
      obtain ⟨u1, rfl⟩ : ∃ z, z = u9 := ⟨_, rfl⟩
      obtain ⟨hP1, hD1⟩ := hB9
      rw [ht9] at hP1
      obtain ⟨hP, hD⟩ := va_joinP (wr := []) (rx := [((ad 0), .inr (3, [.ref (ad 1), .ref (ad 2), .int (nI (uN u1))])), ((ad 2), aF q 6 (fun j => if j < uN u1 then some (uO u1 j) else none)), ((ad 1), .inr (1, [.ref (ad 3), .ref (ad 4), .ref (ad 5), .ref (ad 6), .ref (ad 7), .double (uM u1), .int (nI (uT u1))])), ((ad 3), aI q 8 (uP u1)), ((ad 4), aD q 8 (fun i => FP.i2d (uX u1 i))), ((ad 5), aD q 16 (fun i => FP.i2d (uA u1 i))), ((ad 6), aD q 16 (fun i => FP.i2d (uB u1 i))), ((ad 7), aD q 16 (uF u1))]) (pl1 := TW (uN u1) (WQ q (uC u1))) hP hD [0, 1, 2, 3, 4, 5, 6, 7] [] rfl rfl (by decide) (by decide) hk9 hFc hP1 hD1
      generalize H1 = H at hP hS ⊢
      have hP : va_P G vwCl ([((ad 0), .inr (3, [.ref (ad 1), .ref (ad 2), .int (nI (uN u1))])), ((ad 2), aF q 6 (fun j => if j < uN u1 then some (uO u1 j) else none)), ((ad 1), .inr (1, [.ref (ad 3), .ref (ad 4), .ref (ad 5), .ref (ad 6), .ref (ad 7), .double (uM u1), .int (nI (uT u1))])), ((ad 3), aI q 8 (uP u1)), ((ad 4), aD q 8 (fun i => FP.i2d (uX u1 i))), ((ad 5), aD q 16 (fun i => FP.i2d (uA u1 i))), ((ad 6), aD q 16 (fun i => FP.i2d (uB u1 i))), ((ad 7), aD q 16 (uF u1))] ++ TW (uN u1) (WQ q (uC u1))) H := hP
      have hD : va_D A ([((ad 0), .inr (3, [.ref (ad 1), .ref (ad 2), .int (nI (uN u1))])), ((ad 2), aF q 6 (fun j => if j < uN u1 then some (uO u1 j) else none)), ((ad 1), .inr (1, [.ref (ad 3), .ref (ad 4), .ref (ad 5), .ref (ad 6), .ref (ad 7), .double (uM u1), .int (nI (uT u1))])), ((ad 3), aI q 8 (uP u1)), ((ad 4), aD q 8 (fun i => FP.i2d (uX u1 i))), ((ad 5), aD q 16 (fun i => FP.i2d (uA u1 i))), ((ad 6), aD q 16 (fun i => FP.i2d (uB u1 i))), ((ad 7), aD q 16 (uF u1))] ++ TW (uN u1) (WQ q (uC u1))) := hD
      have hA : vAct v V = vFeed (v >>> (9 &&& 31)) (v >>> (4 &&& 31)) V := by unfold vAct; rw [if_pos hcnd1]; unfold actO; rw [← hcs]; rw [selV_13]
      rw [← hA] at hw
      refine W.widen (k := 11) (n := 73) (Nat.le_of_ble_eq_true rfl) (Nat.le_of_ble_eq_true rfl) ?_
      have hP9 := hP
      have hD9 := hD
      refine W.endD hu48 ?_
      exact W.lret (v := r1) hx hb hr (fun t ht hW => ⟨⟨r1, u1, rfl, hw, by rw [ht]; exact hP9, hD9⟩, hS.F ht⟩) hS.2.2 dL_act_479
    · skip
      refine lv_tableIn (off := 303) (tgt := 435) hx hb dL_act_132 (by decide) (by decide) (by decide) (by decide) ?_
      refine lv_aload_n hx hb dL_act_435 rfl (lv_at hl 5 rfl) ?_
      refine lv_iload hx hb dL_act_436 (lv_at hl 1 rfl) ?_
      refine lv_iload_n hx hb dL_act_438 rfl (lv_at hl 4 rfl) ?_
      refine lv_if_eq (tgt := 448) hx hb dL_act_439 (by decide) (fun h => absurd h (by decide)) (fun _ => ?_)
      refine lv_iload_n hx hb dL_act_442 rfl (lv_at hl 6 rfl) ?_
      refine lv_iconst (v := 4) hx hb dL_act_443 (by decide) ?_
      refine lv_ishr hx hb dL_act_444 ?_
      refine lv_goto (tgt := 476) hx hb dL_act_445 (by decide) ?_
      have hPc := hP.part (cx := [((ad 0), .inr (3, [.ref (ad 1), .ref (ad 2), .int (nI (uN u))])), ((ad 2), aF q 6 (fun j => if j < uN u then some (uO u j) else none)), ((ad 1), .inr (1, [.ref (ad 3), .ref (ad 4), .ref (ad 5), .ref (ad 6), .ref (ad 7), .double (uM u), .int (nI (uT u))])), ((ad 3), aI q 8 (uP u)), ((ad 4), aD q 8 (fun i => FP.i2d (uX u i))), ((ad 5), aD q 16 (fun i => FP.i2d (uA u i))), ((ad 6), aD q 16 (fun i => FP.i2d (uB u i))), ((ad 7), aD q 16 (uF u))]) [0, 1, 2, 3, 4, 5, 6, 7] rfl
      have hDc := hD.part (cx := [((ad 0), .inr (3, [.ref (ad 1), .ref (ad 2), .int (nI (uN u))])), ((ad 2), aF q 6 (fun j => if j < uN u then some (uO u j) else none)), ((ad 1), .inr (1, [.ref (ad 3), .ref (ad 4), .ref (ad 5), .ref (ad 6), .ref (ad 7), .double (uM u), .int (nI (uT u))])), ((ad 3), aI q 8 (uP u)), ((ad 4), aD q 8 (fun i => FP.i2d (uX u i))), ((ad 5), aD q 16 (fun i => FP.i2d (uA u i))), ((ad 6), aD q 16 (fun i => FP.i2d (uB u i))), ((ad 7), aD q 16 (uF u))]) [0, 1, 2, 3, 4, 5, 6, 7] (by decide) rfl
      have hFc := va_freeP (cx := [((ad 0), .inr (3, [.ref (ad 1), .ref (ad 2), .int (nI (uN u))])), ((ad 2), aF q 6 (fun j => if j < uN u then some (uO u j) else none)), ((ad 1), .inr (1, [.ref (ad 3), .ref (ad 4), .ref (ad 5), .ref (ad 6), .ref (ad 7), .double (uM u), .int (nI (uT u))])), ((ad 3), aI q 8 (uP u)), ((ad 4), aD q 8 (fun i => FP.i2d (uX u i))), ((ad 5), aD q 16 (fun i => FP.i2d (uA u i))), ((ad 6), aD q 16 (fun i => FP.i2d (uB u i))), ((ad 7), aD q 16 (uF u))]) hD hS hA [0, 1, 2, 3, 4, 5, 6, 7] rfl
      refine va_calllD hd0 (swd_run (As := [.ref (ad 0), .int (v >>> (9 &&& 31)), .int (v >>> (4 &&& 31))]) (rest := []) ⟨hx, hb, hml, hown, (dr_words hts s.drawn)⟩ (h_feed hst (v >>> (9 &&& 31)) (v >>> (4 &&& 31)) G q H.size ad V u hu) (vx_cwSW 3 (dr_words hts s.drawn) gL_act_L_feed rfl rfl rfl (by decide +kernel) ⟨Nat.le_of_ble_eq_true rfl, Nat.le_of_ble_eq_true rfl⟩) ⟨preY_blind, preY_start (s := s.setDrawn s.drawn) hPc hK hDc (hNF.drawn s.drawn) (hNT.drawn s.drawn) (hNC.drawn s.drawn) hS (fun q h => hFc q h)⟩ rfl rfl hl.1 rfl (lv_room (Nat.le_of_ble_eq_true rfl)) dL_act_476 ⟨(by show _ ≤ 11; omega), (by show _ ≤ 73; omega)⟩) hS (fun q _ h => hFc q h) hFc (fun r1 u9 t9 H1 locs ht9 hv99 hw hB9 hz9 hk9 hS du50 hu50 => ?_)
      obtain ⟨u1, rfl⟩ : ∃ z, z = u9 := ⟨_, rfl⟩
      obtain ⟨hP1, hD1⟩ := hB9
      rw [ht9] at hP1
      obtain ⟨hP, hD⟩ := va_joinP (wr := []) (rx := [((ad 0), .inr (3, [.ref (ad 1), .ref (ad 2), .int (nI (uN u1))])), ((ad 2), aF q 6 (fun j => if j < uN u1 then some (uO u1 j) else none)), ((ad 1), .inr (1, [.ref (ad 3), .ref (ad 4), .ref (ad 5), .ref (ad 6), .ref (ad 7), .double (uM u1), .int (nI (uT u1))])), ((ad 3), aI q 8 (uP u1)), ((ad 4), aD q 8 (fun i => FP.i2d (uX u1 i))), ((ad 5), aD q 16 (fun i => FP.i2d (uA u1 i))), ((ad 6), aD q 16 (fun i => FP.i2d (uB u1 i))), ((ad 7), aD q 16 (uF u1))]) (pl1 := TW (uN u1) (WQ q (uC u1))) hP hD [0, 1, 2, 3, 4, 5, 6, 7] [] rfl rfl (by decide) (by decide) hk9 hFc hP1 hD1
      generalize H1 = H at hP hS ⊢
      have hP : va_P G vwCl ([((ad 0), .inr (3, [.ref (ad 1), .ref (ad 2), .int (nI (uN u1))])), ((ad 2), aF q 6 (fun j => if j < uN u1 then some (uO u1 j) else none)), ((ad 1), .inr (1, [.ref (ad 3), .ref (ad 4), .ref (ad 5), .ref (ad 6), .ref (ad 7), .double (uM u1), .int (nI (uT u1))])), ((ad 3), aI q 8 (uP u1)), ((ad 4), aD q 8 (fun i => FP.i2d (uX u1 i))), ((ad 5), aD q 16 (fun i => FP.i2d (uA u1 i))), ((ad 6), aD q 16 (fun i => FP.i2d (uB u1 i))), ((ad 7), aD q 16 (uF u1))] ++ TW (uN u1) (WQ q (uC u1))) H := hP
      have hD : va_D A ([((ad 0), .inr (3, [.ref (ad 1), .ref (ad 2), .int (nI (uN u1))])), ((ad 2), aF q 6 (fun j => if j < uN u1 then some (uO u1 j) else none)), ((ad 1), .inr (1, [.ref (ad 3), .ref (ad 4), .ref (ad 5), .ref (ad 6), .ref (ad 7), .double (uM u1), .int (nI (uT u1))])), ((ad 3), aI q 8 (uP u1)), ((ad 4), aD q 8 (fun i => FP.i2d (uX u1 i))), ((ad 5), aD q 16 (fun i => FP.i2d (uA u1 i))), ((ad 6), aD q 16 (fun i => FP.i2d (uB u1 i))), ((ad 7), aD q 16 (uF u1))] ++ TW (uN u1) (WQ q (uC u1))) := hD
      have hA : vAct v V = vFeed (v >>> (9 &&& 31)) (v >>> (4 &&& 31)) V := by unfold vAct; rw [if_pos hcnd1]; unfold actO; rw [← hcs]; rw [selV_14]
      rw [← hA] at hw
      refine W.widen (k := 11) (n := 73) (Nat.le_of_ble_eq_true rfl) (Nat.le_of_ble_eq_true rfl) ?_
      have hP9 := hP
      have hD9 := hD
      refine W.endD hu50 ?_
      exact W.lret (v := r1) hx hb hr (fun t ht hW => ⟨⟨r1, u1, rfl, hw, by rw [ht]; exact hP9, hD9⟩, hS.F ht⟩) hS.2.2 dL_act_479
    · skip
      refine lv_tableIn (off := 303) (tgt := 435) hx hb dL_act_132 (by decide) (by decide) (by decide) (by decide) ?_
      refine lv_aload_n hx hb dL_act_435 rfl (lv_at hl 5 rfl) ?_
      refine lv_iload hx hb dL_act_436 (lv_at hl 1 rfl) ?_
      refine lv_iload_n hx hb dL_act_438 rfl (lv_at hl 4 rfl) ?_
      refine lv_if_eq (tgt := 448) hx hb dL_act_439 (by decide) (fun h => absurd h (by decide)) (fun _ => ?_)
      refine lv_iload_n hx hb dL_act_442 rfl (lv_at hl 6 rfl) ?_
      refine lv_iconst (v := 4) hx hb dL_act_443 (by decide) ?_
      refine lv_ishr hx hb dL_act_444 ?_
      refine lv_goto (tgt := 476) hx hb dL_act_445 (by decide) ?_
      have hPc := hP.part (cx := [((ad 0), .inr (3, [.ref (ad 1), .ref (ad 2), .int (nI (uN u))])), ((ad 2), aF q 6 (fun j => if j < uN u then some (uO u j) else none)), ((ad 1), .inr (1, [.ref (ad 3), .ref (ad 4), .ref (ad 5), .ref (ad 6), .ref (ad 7), .double (uM u), .int (nI (uT u))])), ((ad 3), aI q 8 (uP u)), ((ad 4), aD q 8 (fun i => FP.i2d (uX u i))), ((ad 5), aD q 16 (fun i => FP.i2d (uA u i))), ((ad 6), aD q 16 (fun i => FP.i2d (uB u i))), ((ad 7), aD q 16 (uF u))]) [0, 1, 2, 3, 4, 5, 6, 7] rfl
      have hDc := hD.part (cx := [((ad 0), .inr (3, [.ref (ad 1), .ref (ad 2), .int (nI (uN u))])), ((ad 2), aF q 6 (fun j => if j < uN u then some (uO u j) else none)), ((ad 1), .inr (1, [.ref (ad 3), .ref (ad 4), .ref (ad 5), .ref (ad 6), .ref (ad 7), .double (uM u), .int (nI (uT u))])), ((ad 3), aI q 8 (uP u)), ((ad 4), aD q 8 (fun i => FP.i2d (uX u i))), ((ad 5), aD q 16 (fun i => FP.i2d (uA u i))), ((ad 6), aD q 16 (fun i => FP.i2d (uB u i))), ((ad 7), aD q 16 (uF u))]) [0, 1, 2, 3, 4, 5, 6, 7] (by decide) rfl
      have hFc := va_freeP (cx := [((ad 0), .inr (3, [.ref (ad 1), .ref (ad 2), .int (nI (uN u))])), ((ad 2), aF q 6 (fun j => if j < uN u then some (uO u j) else none)), ((ad 1), .inr (1, [.ref (ad 3), .ref (ad 4), .ref (ad 5), .ref (ad 6), .ref (ad 7), .double (uM u), .int (nI (uT u))])), ((ad 3), aI q 8 (uP u)), ((ad 4), aD q 8 (fun i => FP.i2d (uX u i))), ((ad 5), aD q 16 (fun i => FP.i2d (uA u i))), ((ad 6), aD q 16 (fun i => FP.i2d (uB u i))), ((ad 7), aD q 16 (uF u))]) hD hS hA [0, 1, 2, 3, 4, 5, 6, 7] rfl
      refine va_calllD hd0 (swd_run (As := [.ref (ad 0), .int (v >>> (9 &&& 31)), .int (v >>> (4 &&& 31))]) (rest := []) ⟨hx, hb, hml, hown, (dr_words hts s.drawn)⟩ (h_feed hst (v >>> (9 &&& 31)) (v >>> (4 &&& 31)) G q H.size ad V u hu) (vx_cwSW 3 (dr_words hts s.drawn) gL_act_L_feed rfl rfl rfl (by decide +kernel) ⟨Nat.le_of_ble_eq_true rfl, Nat.le_of_ble_eq_true rfl⟩) ⟨preY_blind, preY_start (s := s.setDrawn s.drawn) hPc hK hDc (hNF.drawn s.drawn) (hNT.drawn s.drawn) (hNC.drawn s.drawn) hS (fun q h => hFc q h)⟩ rfl rfl hl.1 rfl (lv_room (Nat.le_of_ble_eq_true rfl)) dL_act_476 ⟨(by show _ ≤ 11; omega), (by show _ ≤ 73; omega)⟩) hS (fun q _ h => hFc q h) hFc (fun r1 u9 t9 H1 locs ht9 hv99 hw hB9 hz9 hk9 hS du52 hu52 => ?_)
      obtain ⟨u1, rfl⟩ : ∃ z, z = u9 := ⟨_, rfl⟩
      obtain ⟨hP1, hD1⟩ := hB9
      rw [ht9] at hP1
      obtain ⟨hP, hD⟩ := va_joinP (wr := []) (rx := [((ad 0), .inr (3, [.ref (ad 1), .ref (ad 2), .int (nI (uN u1))])), ((ad 2), aF q 6 (fun j => if j < uN u1 then some (uO u1 j) else none)), ((ad 1), .inr (1, [.ref (ad 3), .ref (ad 4), .ref (ad 5), .ref (ad 6), .ref (ad 7), .double (uM u1), .int (nI (uT u1))])), ((ad 3), aI q 8 (uP u1)), ((ad 4), aD q 8 (fun i => FP.i2d (uX u1 i))), ((ad 5), aD q 16 (fun i => FP.i2d (uA u1 i))), ((ad 6), aD q 16 (fun i => FP.i2d (uB u1 i))), ((ad 7), aD q 16 (uF u1))]) (pl1 := TW (uN u1) (WQ q (uC u1))) hP hD [0, 1, 2, 3, 4, 5, 6, 7] [] rfl rfl (by decide) (by decide) hk9 hFc hP1 hD1
      generalize H1 = H at hP hS ⊢
      have hP : va_P G vwCl ([((ad 0), .inr (3, [.ref (ad 1), .ref (ad 2), .int (nI (uN u1))])), ((ad 2), aF q 6 (fun j => if j < uN u1 then some (uO u1 j) else none)), ((ad 1), .inr (1, [.ref (ad 3), .ref (ad 4), .ref (ad 5), .ref (ad 6), .ref (ad 7), .double (uM u1), .int (nI (uT u1))])), ((ad 3), aI q 8 (uP u1)), ((ad 4), aD q 8 (fun i => FP.i2d (uX u1 i))), ((ad 5), aD q 16 (fun i => FP.i2d (uA u1 i))), ((ad 6), aD q 16 (fun i => FP.i2d (uB u1 i))), ((ad 7), aD q 16 (uF u1))] ++ TW (uN u1) (WQ q (uC u1))) H := hP
      have hD : va_D A ([((ad 0), .inr (3, [.ref (ad 1), .ref (ad 2), .int (nI (uN u1))])), ((ad 2), aF q 6 (fun j => if j < uN u1 then some (uO u1 j) else none)), ((ad 1), .inr (1, [.ref (ad 3), .ref (ad 4), .ref (ad 5), .ref (ad 6), .ref (ad 7), .double (uM u1), .int (nI (uT u1))])), ((ad 3), aI q 8 (uP u1)), ((ad 4), aD q 8 (fun i => FP.i2d (uX u1 i))), ((ad 5), aD q 16 (fun i => FP.i2d (uA u1 i))), ((ad 6), aD q 16 (fun i => FP.i2d (uB u1 i))), ((ad 7), aD q 16 (uF u1))] ++ TW (uN u1) (WQ q (uC u1))) := hD
      have hA : vAct v V = vFeed (v >>> (9 &&& 31)) (v >>> (4 &&& 31)) V := by unfold vAct; rw [if_pos hcnd1]; unfold actO; rw [← hcs]; rw [selV_15]
      rw [← hA] at hw
      refine W.widen (k := 11) (n := 73) (Nat.le_of_ble_eq_true rfl) (Nat.le_of_ble_eq_true rfl) ?_
      have hP9 := hP
      have hD9 := hD
      refine W.endD hu52 ?_
      exact W.lret (v := r1) hx hb hr (fun t ht hW => ⟨⟨r1, u1, rfl, hw, by rw [ht]; exact hP9, hD9⟩, hS.F ht⟩) hS.2.2 dL_act_479
    · skip
      refine lv_tableIn (off := 303) (tgt := 435) hx hb dL_act_132 (by decide) (by decide) (by decide) (by decide) ?_
      refine lv_aload_n hx hb dL_act_435 rfl (lv_at hl 5 rfl) ?_
      refine lv_iload hx hb dL_act_436 (lv_at hl 1 rfl) ?_
      refine lv_iload_n hx hb dL_act_438 rfl (lv_at hl 4 rfl) ?_
      refine lv_if_eq (tgt := 448) hx hb dL_act_439 (by decide) (fun h => absurd h (by decide)) (fun _ => ?_)
      refine lv_iload_n hx hb dL_act_442 rfl (lv_at hl 6 rfl) ?_
      refine lv_iconst (v := 4) hx hb dL_act_443 (by decide) ?_
      refine lv_ishr hx hb dL_act_444 ?_
      refine lv_goto (tgt := 476) hx hb dL_act_445 (by decide) ?_
      have hPc := hP.part (cx := [((ad 0), .inr (3, [.ref (ad 1), .ref (ad 2), .int (nI (uN u))])), ((ad 2), aF q 6 (fun j => if j < uN u then some (uO u j) else none)), ((ad 1), .inr (1, [.ref (ad 3), .ref (ad 4), .ref (ad 5), .ref (ad 6), .ref (ad 7), .double (uM u), .int (nI (uT u))])), ((ad 3), aI q 8 (uP u)), ((ad 4), aD q 8 (fun i => FP.i2d (uX u i))), ((ad 5), aD q 16 (fun i => FP.i2d (uA u i))), ((ad 6), aD q 16 (fun i => FP.i2d (uB u i))), ((ad 7), aD q 16 (uF u))]) [0, 1, 2, 3, 4, 5, 6, 7] rfl
      have hDc := hD.part (cx := [((ad 0), .inr (3, [.ref (ad 1), .ref (ad 2), .int (nI (uN u))])), ((ad 2), aF q 6 (fun j => if j < uN u then some (uO u j) else none)), ((ad 1), .inr (1, [.ref (ad 3), .ref (ad 4), .ref (ad 5), .ref (ad 6), .ref (ad 7), .double (uM u), .int (nI (uT u))])), ((ad 3), aI q 8 (uP u)), ((ad 4), aD q 8 (fun i => FP.i2d (uX u i))), ((ad 5), aD q 16 (fun i => FP.i2d (uA u i))), ((ad 6), aD q 16 (fun i => FP.i2d (uB u i))), ((ad 7), aD q 16 (uF u))]) [0, 1, 2, 3, 4, 5, 6, 7] (by decide) rfl
      have hFc := va_freeP (cx := [((ad 0), .inr (3, [.ref (ad 1), .ref (ad 2), .int (nI (uN u))])), ((ad 2), aF q 6 (fun j => if j < uN u then some (uO u j) else none)), ((ad 1), .inr (1, [.ref (ad 3), .ref (ad 4), .ref (ad 5), .ref (ad 6), .ref (ad 7), .double (uM u), .int (nI (uT u))])), ((ad 3), aI q 8 (uP u)), ((ad 4), aD q 8 (fun i => FP.i2d (uX u i))), ((ad 5), aD q 16 (fun i => FP.i2d (uA u i))), ((ad 6), aD q 16 (fun i => FP.i2d (uB u i))), ((ad 7), aD q 16 (uF u))]) hD hS hA [0, 1, 2, 3, 4, 5, 6, 7] rfl
      refine va_calllD hd0 (swd_run (As := [.ref (ad 0), .int (v >>> (9 &&& 31)), .int (v >>> (4 &&& 31))]) (rest := []) ⟨hx, hb, hml, hown, (dr_words hts s.drawn)⟩ (h_feed hst (v >>> (9 &&& 31)) (v >>> (4 &&& 31)) G q H.size ad V u hu) (vx_cwSW 3 (dr_words hts s.drawn) gL_act_L_feed rfl rfl rfl (by decide +kernel) ⟨Nat.le_of_ble_eq_true rfl, Nat.le_of_ble_eq_true rfl⟩) ⟨preY_blind, preY_start (s := s.setDrawn s.drawn) hPc hK hDc (hNF.drawn s.drawn) (hNT.drawn s.drawn) (hNC.drawn s.drawn) hS (fun q h => hFc q h)⟩ rfl rfl hl.1 rfl (lv_room (Nat.le_of_ble_eq_true rfl)) dL_act_476 ⟨(by show _ ≤ 11; omega), (by show _ ≤ 73; omega)⟩) hS (fun q _ h => hFc q h) hFc (fun r1 u9 t9 H1 locs ht9 hv99 hw hB9 hz9 hk9 hS du54 hu54 => ?_)
      obtain ⟨u1, rfl⟩ : ∃ z, z = u9 := ⟨_, rfl⟩
      obtain ⟨hP1, hD1⟩ := hB9
      rw [ht9] at hP1
      obtain ⟨hP, hD⟩ := va_joinP (wr := []) (rx := [((ad 0), .inr (3, [.ref (ad 1), .ref (ad 2), .int (nI (uN u1))])), ((ad 2), aF q 6 (fun j => if j < uN u1 then some (uO u1 j) else none)), ((ad 1), .inr (1, [.ref (ad 3), .ref (ad 4), .ref (ad 5), .ref (ad 6), .ref (ad 7), .double (uM u1), .int (nI (uT u1))])), ((ad 3), aI q 8 (uP u1)), ((ad 4), aD q 8 (fun i => FP.i2d (uX u1 i))), ((ad 5), aD q 16 (fun i => FP.i2d (uA u1 i))), ((ad 6), aD q 16 (fun i => FP.i2d (uB u1 i))), ((ad 7), aD q 16 (uF u1))]) (pl1 := TW (uN u1) (WQ q (uC u1))) hP hD [0, 1, 2, 3, 4, 5, 6, 7] [] rfl rfl (by decide) (by decide) hk9 hFc hP1 hD1
      generalize H1 = H at hP hS ⊢
      have hP : va_P G vwCl ([((ad 0), .inr (3, [.ref (ad 1), .ref (ad 2), .int (nI (uN u1))])), ((ad 2), aF q 6 (fun j => if j < uN u1 then some (uO u1 j) else none)), ((ad 1), .inr (1, [.ref (ad 3), .ref (ad 4), .ref (ad 5), .ref (ad 6), .ref (ad 7), .double (uM u1), .int (nI (uT u1))])), ((ad 3), aI q 8 (uP u1)), ((ad 4), aD q 8 (fun i => FP.i2d (uX u1 i))), ((ad 5), aD q 16 (fun i => FP.i2d (uA u1 i))), ((ad 6), aD q 16 (fun i => FP.i2d (uB u1 i))), ((ad 7), aD q 16 (uF u1))] ++ TW (uN u1) (WQ q (uC u1))) H := hP
      have hD : va_D A ([((ad 0), .inr (3, [.ref (ad 1), .ref (ad 2), .int (nI (uN u1))])), ((ad 2), aF q 6 (fun j => if j < uN u1 then some (uO u1 j) else none)), ((ad 1), .inr (1, [.ref (ad 3), .ref (ad 4), .ref (ad 5), .ref (ad 6), .ref (ad 7), .double (uM u1), .int (nI (uT u1))])), ((ad 3), aI q 8 (uP u1)), ((ad 4), aD q 8 (fun i => FP.i2d (uX u1 i))), ((ad 5), aD q 16 (fun i => FP.i2d (uA u1 i))), ((ad 6), aD q 16 (fun i => FP.i2d (uB u1 i))), ((ad 7), aD q 16 (uF u1))] ++ TW (uN u1) (WQ q (uC u1))) := hD
      have hA : vAct v V = vFeed (v >>> (9 &&& 31)) (v >>> (4 &&& 31)) V := by unfold vAct; rw [if_pos hcnd1]; unfold actO; rw [← hcs]; rw [selV_16]
      rw [← hA] at hw
      refine W.widen (k := 11) (n := 73) (Nat.le_of_ble_eq_true rfl) (Nat.le_of_ble_eq_true rfl) ?_
      have hP9 := hP
      have hD9 := hD
      refine W.endD hu54 ?_
      exact W.lret (v := r1) hx hb hr (fun t ht hW => ⟨⟨r1, u1, rfl, hw, by rw [ht]; exact hP9, hD9⟩, hS.F ht⟩) hS.2.2 dL_act_479
    · skip
      refine lv_tableIn (off := 348) (tgt := 480) hx hb dL_act_132 (by decide) (by decide) (by decide) (by decide) ?_
      refine lv_aload_n hx hb dL_act_480 rfl (lv_at hl 5 rfl) ?_
      refine lv_iload_n hx hb dL_act_481 rfl (lv_at hl 4 rfl) ?_
      refine lv_if_eq (tgt := 492) hx hb dL_act_482 (by decide) (fun h => absurd h (by decide)) (fun _ => ?_)
      refine lv_iload_n hx hb dL_act_485 rfl (lv_at hl 6 rfl) ?_
      refine lv_bipush (v := 9) hx hb dL_act_486 (by decide) ?_
      refine lv_ishr hx hb dL_act_488 ?_
      refine lv_goto (tgt := 502) hx hb dL_act_489 (by decide) ?_
      refine lv_iload_n hx hb dL_act_502 rfl (lv_at hl 4 rfl) ?_
      refine lv_if_eq (tgt := 511) hx hb dL_act_503 (by decide) (fun h => absurd h (by decide)) (fun _ => ?_)
      refine lv_iload hx hb dL_act_506 (lv_at hl 1 rfl) ?_
      refine lv_goto (tgt := 522) hx hb dL_act_508 (by decide) ?_
      have hPc := hP.part (cx := [((ad 0), .inr (3, [.ref (ad 1), .ref (ad 2), .int (nI (uN u))])), ((ad 2), aF q 6 (fun j => if j < uN u then some (uO u j) else none)), ((ad 1), .inr (1, [.ref (ad 3), .ref (ad 4), .ref (ad 5), .ref (ad 6), .ref (ad 7), .double (uM u), .int (nI (uT u))])), ((ad 3), aI q 8 (uP u)), ((ad 4), aD q 8 (fun i => FP.i2d (uX u i))), ((ad 5), aD q 16 (fun i => FP.i2d (uA u i))), ((ad 6), aD q 16 (fun i => FP.i2d (uB u i))), ((ad 7), aD q 16 (uF u))]) [0, 1, 2, 3, 4, 5, 6, 7] rfl
      have hDc := hD.part (cx := [((ad 0), .inr (3, [.ref (ad 1), .ref (ad 2), .int (nI (uN u))])), ((ad 2), aF q 6 (fun j => if j < uN u then some (uO u j) else none)), ((ad 1), .inr (1, [.ref (ad 3), .ref (ad 4), .ref (ad 5), .ref (ad 6), .ref (ad 7), .double (uM u), .int (nI (uT u))])), ((ad 3), aI q 8 (uP u)), ((ad 4), aD q 8 (fun i => FP.i2d (uX u i))), ((ad 5), aD q 16 (fun i => FP.i2d (uA u i))), ((ad 6), aD q 16 (fun i => FP.i2d (uB u i))), ((ad 7), aD q 16 (uF u))]) [0, 1, 2, 3, 4, 5, 6, 7] (by decide) rfl
      have hFc := va_freeP (cx := [((ad 0), .inr (3, [.ref (ad 1), .ref (ad 2), .int (nI (uN u))])), ((ad 2), aF q 6 (fun j => if j < uN u then some (uO u j) else none)), ((ad 1), .inr (1, [.ref (ad 3), .ref (ad 4), .ref (ad 5), .ref (ad 6), .ref (ad 7), .double (uM u), .int (nI (uT u))])), ((ad 3), aI q 8 (uP u)), ((ad 4), aD q 8 (fun i => FP.i2d (uX u i))), ((ad 5), aD q 16 (fun i => FP.i2d (uA u i))), ((ad 6), aD q 16 (fun i => FP.i2d (uB u i))), ((ad 7), aD q 16 (uF u))]) hD hS hA [0, 1, 2, 3, 4, 5, 6, 7] rfl
      refine va_calllD hd0 (swd_run (As := [.ref (ad 0), .int (v >>> (9 &&& 31)), .int (v >>> (9 &&& 31))]) (rest := []) ⟨hx, hb, hml, hown, (dr_words hts s.drawn)⟩ (h_script hst (v >>> (9 &&& 31)) (v >>> (9 &&& 31)) G q H.size ad V u hu) (vx_cwSW 3 (dr_words hts s.drawn) gL_act_L_script rfl rfl rfl (by decide +kernel) ⟨Nat.le_of_ble_eq_true rfl, Nat.le_of_ble_eq_true rfl⟩) ⟨preY_blind, preY_start (s := s.setDrawn s.drawn) hPc hK hDc (hNF.drawn s.drawn) (hNT.drawn s.drawn) (hNC.drawn s.drawn) hS (fun q h => hFc q h)⟩ rfl rfl hl.1 rfl (lv_room (Nat.le_of_ble_eq_true rfl)) dL_act_522 ⟨(by show _ ≤ 11; omega), (by show _ ≤ 73; omega)⟩) hS (fun q _ h => hFc q h) hFc (fun r1 u9 t9 H1 locs ht9 hv99 hw hB9 hz9 hk9 hS du57 hu57 => ?_)
      obtain ⟨u1, rfl⟩ : ∃ z, z = u9 := ⟨_, rfl⟩
      obtain ⟨hP1, hD1⟩ := hB9
      rw [ht9] at hP1
      obtain ⟨hP, hD⟩ := va_joinP (wr := []) (rx := [((ad 0), .inr (3, [.ref (ad 1), .ref (ad 2), .int (nI (uN u1))])), ((ad 2), aF q 6 (fun j => if j < uN u1 then some (uO u1 j) else none)), ((ad 1), .inr (1, [.ref (ad 3), .ref (ad 4), .ref (ad 5), .ref (ad 6), .ref (ad 7), .double (uM u1), .int (nI (uT u1))])), ((ad 3), aI q 8 (uP u1)), ((ad 4), aD q 8 (fun i => FP.i2d (uX u1 i))), ((ad 5), aD q 16 (fun i => FP.i2d (uA u1 i))), ((ad 6), aD q 16 (fun i => FP.i2d (uB u1 i))), ((ad 7), aD q 16 (uF u1))]) (pl1 := TW (uN u1) (WQ q (uC u1))) hP hD [0, 1, 2, 3, 4, 5, 6, 7] [] rfl rfl (by decide) (by decide) hk9 hFc hP1 hD1
      generalize H1 = H at hP hS ⊢
      have hP : va_P G vwCl ([((ad 0), .inr (3, [.ref (ad 1), .ref (ad 2), .int (nI (uN u1))])), ((ad 2), aF q 6 (fun j => if j < uN u1 then some (uO u1 j) else none)), ((ad 1), .inr (1, [.ref (ad 3), .ref (ad 4), .ref (ad 5), .ref (ad 6), .ref (ad 7), .double (uM u1), .int (nI (uT u1))])), ((ad 3), aI q 8 (uP u1)), ((ad 4), aD q 8 (fun i => FP.i2d (uX u1 i))), ((ad 5), aD q 16 (fun i => FP.i2d (uA u1 i))), ((ad 6), aD q 16 (fun i => FP.i2d (uB u1 i))), ((ad 7), aD q 16 (uF u1))] ++ TW (uN u1) (WQ q (uC u1))) H := hP
      have hD : va_D A ([((ad 0), .inr (3, [.ref (ad 1), .ref (ad 2), .int (nI (uN u1))])), ((ad 2), aF q 6 (fun j => if j < uN u1 then some (uO u1 j) else none)), ((ad 1), .inr (1, [.ref (ad 3), .ref (ad 4), .ref (ad 5), .ref (ad 6), .ref (ad 7), .double (uM u1), .int (nI (uT u1))])), ((ad 3), aI q 8 (uP u1)), ((ad 4), aD q 8 (fun i => FP.i2d (uX u1 i))), ((ad 5), aD q 16 (fun i => FP.i2d (uA u1 i))), ((ad 6), aD q 16 (fun i => FP.i2d (uB u1 i))), ((ad 7), aD q 16 (uF u1))] ++ TW (uN u1) (WQ q (uC u1))) := hD
      have hA : vAct v V = vScript (v >>> (9 &&& 31)) (v >>> (9 &&& 31)) V := by unfold vAct; rw [if_pos hcnd1]; unfold actO; rw [← hcs]; rw [selV_17]
      rw [← hA] at hw
      refine W.widen (k := 11) (n := 73) (Nat.le_of_ble_eq_true rfl) (Nat.le_of_ble_eq_true rfl) ?_
      have hP9 := hP
      have hD9 := hD
      refine W.endD hu57 ?_
      exact W.lret (v := r1) hx hb hr (fun t ht hW => ⟨⟨r1, u1, rfl, hw, by rw [ht]; exact hP9, hD9⟩, hS.F ht⟩) hS.2.2 dL_act_525
    · skip
      refine lv_tableIn (off := 394) (tgt := 526) hx hb dL_act_132 (by decide) (by decide) (by decide) (by decide) ?_
      refine lv_aload_n hx hb dL_act_526 rfl (lv_at hl 5 rfl) ?_
      refine lv_iload_n hx hb dL_act_527 rfl (lv_at hl 3 rfl) ?_
      refine lv_iload hx hb dL_act_528 (lv_at hl 2 rfl) ?_
      have hPc := hP.part (cx := [((ad 0), .inr (3, [.ref (ad 1), .ref (ad 2), .int (nI (uN u))])), ((ad 2), aF q 6 (fun j => if j < uN u then some (uO u j) else none)), ((ad 1), .inr (1, [.ref (ad 3), .ref (ad 4), .ref (ad 5), .ref (ad 6), .ref (ad 7), .double (uM u), .int (nI (uT u))])), ((ad 3), aI q 8 (uP u)), ((ad 4), aD q 8 (fun i => FP.i2d (uX u i))), ((ad 5), aD q 16 (fun i => FP.i2d (uA u i))), ((ad 6), aD q 16 (fun i => FP.i2d (uB u i))), ((ad 7), aD q 16 (uF u))]) [0, 1, 2, 3, 4, 5, 6, 7] rfl
      have hDc := hD.part (cx := [((ad 0), .inr (3, [.ref (ad 1), .ref (ad 2), .int (nI (uN u))])), ((ad 2), aF q 6 (fun j => if j < uN u then some (uO u j) else none)), ((ad 1), .inr (1, [.ref (ad 3), .ref (ad 4), .ref (ad 5), .ref (ad 6), .ref (ad 7), .double (uM u), .int (nI (uT u))])), ((ad 3), aI q 8 (uP u)), ((ad 4), aD q 8 (fun i => FP.i2d (uX u i))), ((ad 5), aD q 16 (fun i => FP.i2d (uA u i))), ((ad 6), aD q 16 (fun i => FP.i2d (uB u i))), ((ad 7), aD q 16 (uF u))]) [0, 1, 2, 3, 4, 5, 6, 7] (by decide) rfl
      have hFc := va_freeP (cx := [((ad 0), .inr (3, [.ref (ad 1), .ref (ad 2), .int (nI (uN u))])), ((ad 2), aF q 6 (fun j => if j < uN u then some (uO u j) else none)), ((ad 1), .inr (1, [.ref (ad 3), .ref (ad 4), .ref (ad 5), .ref (ad 6), .ref (ad 7), .double (uM u), .int (nI (uT u))])), ((ad 3), aI q 8 (uP u)), ((ad 4), aD q 8 (fun i => FP.i2d (uX u i))), ((ad 5), aD q 16 (fun i => FP.i2d (uA u i))), ((ad 6), aD q 16 (fun i => FP.i2d (uB u i))), ((ad 7), aD q 16 (uF u))]) hD hS hA [0, 1, 2, 3, 4, 5, 6, 7] rfl
      refine va_calllD hd0 (swd_run (As := [.ref (ad 0), .int ((lowV (v >>> (5 &&& 31)) 9) - 1), .int ((lowV (v >>> (8 &&& 31)) 11) - 1)]) (rest := []) ⟨hx, hb, hml, hown, (dr_words hts s.drawn)⟩ (h_weight hst ((lowV (v >>> (5 &&& 31)) 9) - 1) ((lowV (v >>> (8 &&& 31)) 11) - 1) G q H.size ad V u hu) (vx_cwSW 3 (dr_words hts s.drawn) gL_act_L_weight rfl rfl rfl (by decide +kernel) ⟨Nat.le_of_ble_eq_true rfl, Nat.le_of_ble_eq_true rfl⟩) ⟨preY_blind, preY_start (s := s.setDrawn s.drawn) hPc hK hDc (hNF.drawn s.drawn) (hNT.drawn s.drawn) (hNC.drawn s.drawn) hS (fun q h => hFc q h)⟩ rfl rfl hl.1 rfl (lv_room (Nat.le_of_ble_eq_true rfl)) dL_act_530 ⟨(by show _ ≤ 11; omega), (by show _ ≤ 73; omega)⟩) hS (fun q _ h => hFc q h) hFc (fun r1 u9 t9 H1 locs ht9 hv99 hw hB9 hz9 hk9 hS du58 hu58 => ?_)
      obtain ⟨u1, rfl⟩ : ∃ z, z = u9 := ⟨_, rfl⟩
      obtain ⟨hP1, hD1⟩ := hB9
      rw [ht9] at hP1
      obtain ⟨hP, hD⟩ := va_joinP (wr := []) (rx := [((ad 0), .inr (3, [.ref (ad 1), .ref (ad 2), .int (nI (uN u1))])), ((ad 2), aF q 6 (fun j => if j < uN u1 then some (uO u1 j) else none)), ((ad 1), .inr (1, [.ref (ad 3), .ref (ad 4), .ref (ad 5), .ref (ad 6), .ref (ad 7), .double (uM u1), .int (nI (uT u1))])), ((ad 3), aI q 8 (uP u1)), ((ad 4), aD q 8 (fun i => FP.i2d (uX u1 i))), ((ad 5), aD q 16 (fun i => FP.i2d (uA u1 i))), ((ad 6), aD q 16 (fun i => FP.i2d (uB u1 i))), ((ad 7), aD q 16 (uF u1))]) (pl1 := TW (uN u1) (WQ q (uC u1))) hP hD [0, 1, 2, 3, 4, 5, 6, 7] [] rfl rfl (by decide) (by decide) hk9 hFc hP1 hD1
      generalize H1 = H at hP hS ⊢
      have hP : va_P G vwCl ([((ad 0), .inr (3, [.ref (ad 1), .ref (ad 2), .int (nI (uN u1))])), ((ad 2), aF q 6 (fun j => if j < uN u1 then some (uO u1 j) else none)), ((ad 1), .inr (1, [.ref (ad 3), .ref (ad 4), .ref (ad 5), .ref (ad 6), .ref (ad 7), .double (uM u1), .int (nI (uT u1))])), ((ad 3), aI q 8 (uP u1)), ((ad 4), aD q 8 (fun i => FP.i2d (uX u1 i))), ((ad 5), aD q 16 (fun i => FP.i2d (uA u1 i))), ((ad 6), aD q 16 (fun i => FP.i2d (uB u1 i))), ((ad 7), aD q 16 (uF u1))] ++ TW (uN u1) (WQ q (uC u1))) H := hP
      have hD : va_D A ([((ad 0), .inr (3, [.ref (ad 1), .ref (ad 2), .int (nI (uN u1))])), ((ad 2), aF q 6 (fun j => if j < uN u1 then some (uO u1 j) else none)), ((ad 1), .inr (1, [.ref (ad 3), .ref (ad 4), .ref (ad 5), .ref (ad 6), .ref (ad 7), .double (uM u1), .int (nI (uT u1))])), ((ad 3), aI q 8 (uP u1)), ((ad 4), aD q 8 (fun i => FP.i2d (uX u1 i))), ((ad 5), aD q 16 (fun i => FP.i2d (uA u1 i))), ((ad 6), aD q 16 (fun i => FP.i2d (uB u1 i))), ((ad 7), aD q 16 (uF u1))] ++ TW (uN u1) (WQ q (uC u1))) := hD
      have hA : vAct v V = vWeight ((lowV (v >>> (5 &&& 31)) 9) - 1) ((lowV (v >>> (8 &&& 31)) 11) - 1) V := by unfold vAct; rw [if_pos hcnd1]; unfold actO; rw [← hcs]; rw [selV_18]
      rw [← hA] at hw
      refine W.widen (k := 11) (n := 73) (Nat.le_of_ble_eq_true rfl) (Nat.le_of_ble_eq_true rfl) ?_
      have hP9 := hP
      have hD9 := hD
      refine W.endD hu58 ?_
      exact W.lret (v := r1) hx hb hr (fun t ht hW => ⟨⟨r1, u1, rfl, hw, by rw [ht]; exact hP9, hD9⟩, hS.F ht⟩) hS.2.2 dL_act_533
    · skip
      refine lv_tableIn (off := 394) (tgt := 526) hx hb dL_act_132 (by decide) (by decide) (by decide) (by decide) ?_
      refine lv_aload_n hx hb dL_act_526 rfl (lv_at hl 5 rfl) ?_
      refine lv_iload_n hx hb dL_act_527 rfl (lv_at hl 3 rfl) ?_
      refine lv_iload hx hb dL_act_528 (lv_at hl 2 rfl) ?_
      have hPc := hP.part (cx := [((ad 0), .inr (3, [.ref (ad 1), .ref (ad 2), .int (nI (uN u))])), ((ad 2), aF q 6 (fun j => if j < uN u then some (uO u j) else none)), ((ad 1), .inr (1, [.ref (ad 3), .ref (ad 4), .ref (ad 5), .ref (ad 6), .ref (ad 7), .double (uM u), .int (nI (uT u))])), ((ad 3), aI q 8 (uP u)), ((ad 4), aD q 8 (fun i => FP.i2d (uX u i))), ((ad 5), aD q 16 (fun i => FP.i2d (uA u i))), ((ad 6), aD q 16 (fun i => FP.i2d (uB u i))), ((ad 7), aD q 16 (uF u))]) [0, 1, 2, 3, 4, 5, 6, 7] rfl
      have hDc := hD.part (cx := [((ad 0), .inr (3, [.ref (ad 1), .ref (ad 2), .int (nI (uN u))])), ((ad 2), aF q 6 (fun j => if j < uN u then some (uO u j) else none)), ((ad 1), .inr (1, [.ref (ad 3), .ref (ad 4), .ref (ad 5), .ref (ad 6), .ref (ad 7), .double (uM u), .int (nI (uT u))])), ((ad 3), aI q 8 (uP u)), ((ad 4), aD q 8 (fun i => FP.i2d (uX u i))), ((ad 5), aD q 16 (fun i => FP.i2d (uA u i))), ((ad 6), aD q 16 (fun i => FP.i2d (uB u i))), ((ad 7), aD q 16 (uF u))]) [0, 1, 2, 3, 4, 5, 6, 7] (by decide) rfl
      have hFc := va_freeP (cx := [((ad 0), .inr (3, [.ref (ad 1), .ref (ad 2), .int (nI (uN u))])), ((ad 2), aF q 6 (fun j => if j < uN u then some (uO u j) else none)), ((ad 1), .inr (1, [.ref (ad 3), .ref (ad 4), .ref (ad 5), .ref (ad 6), .ref (ad 7), .double (uM u), .int (nI (uT u))])), ((ad 3), aI q 8 (uP u)), ((ad 4), aD q 8 (fun i => FP.i2d (uX u i))), ((ad 5), aD q 16 (fun i => FP.i2d (uA u i))), ((ad 6), aD q 16 (fun i => FP.i2d (uB u i))), ((ad 7), aD q 16 (uF u))]) hD hS hA [0, 1, 2, 3, 4, 5, 6, 7] rfl
      refine va_calllD hd0 (swd_run (As := [.ref (ad 0), .int ((lowV (v >>> (5 &&& 31)) 9) - 1), .int ((lowV (v >>> (8 &&& 31)) 11) - 1)]) (rest := []) ⟨hx, hb, hml, hown, (dr_words hts s.drawn)⟩ (h_weight hst ((lowV (v >>> (5 &&& 31)) 9) - 1) ((lowV (v >>> (8 &&& 31)) 11) - 1) G q H.size ad V u hu) (vx_cwSW 3 (dr_words hts s.drawn) gL_act_L_weight rfl rfl rfl (by decide +kernel) ⟨Nat.le_of_ble_eq_true rfl, Nat.le_of_ble_eq_true rfl⟩) ⟨preY_blind, preY_start (s := s.setDrawn s.drawn) hPc hK hDc (hNF.drawn s.drawn) (hNT.drawn s.drawn) (hNC.drawn s.drawn) hS (fun q h => hFc q h)⟩ rfl rfl hl.1 rfl (lv_room (Nat.le_of_ble_eq_true rfl)) dL_act_530 ⟨(by show _ ≤ 11; omega), (by show _ ≤ 73; omega)⟩) hS (fun q _ h => hFc q h) hFc (fun r1 u9 t9 H1 locs ht9 hv99 hw hB9 hz9 hk9 hS du59 hu59 => ?_)
      obtain ⟨u1, rfl⟩ : ∃ z, z = u9 := ⟨_, rfl⟩
      obtain ⟨hP1, hD1⟩ := hB9
      rw [ht9] at hP1
      obtain ⟨hP, hD⟩ := va_joinP (wr := []) (rx := [((ad 0), .inr (3, [.ref (ad 1), .ref (ad 2), .int (nI (uN u1))])), ((ad 2), aF q 6 (fun j => if j < uN u1 then some (uO u1 j) else none)), ((ad 1), .inr (1, [.ref (ad 3), .ref (ad 4), .ref (ad 5), .ref (ad 6), .ref (ad 7), .double (uM u1), .int (nI (uT u1))])), ((ad 3), aI q 8 (uP u1)), ((ad 4), aD q 8 (fun i => FP.i2d (uX u1 i))), ((ad 5), aD q 16 (fun i => FP.i2d (uA u1 i))), ((ad 6), aD q 16 (fun i => FP.i2d (uB u1 i))), ((ad 7), aD q 16 (uF u1))]) (pl1 := TW (uN u1) (WQ q (uC u1))) hP hD [0, 1, 2, 3, 4, 5, 6, 7] [] rfl rfl (by decide) (by decide) hk9 hFc hP1 hD1
      generalize H1 = H at hP hS ⊢
      have hP : va_P G vwCl ([((ad 0), .inr (3, [.ref (ad 1), .ref (ad 2), .int (nI (uN u1))])), ((ad 2), aF q 6 (fun j => if j < uN u1 then some (uO u1 j) else none)), ((ad 1), .inr (1, [.ref (ad 3), .ref (ad 4), .ref (ad 5), .ref (ad 6), .ref (ad 7), .double (uM u1), .int (nI (uT u1))])), ((ad 3), aI q 8 (uP u1)), ((ad 4), aD q 8 (fun i => FP.i2d (uX u1 i))), ((ad 5), aD q 16 (fun i => FP.i2d (uA u1 i))), ((ad 6), aD q 16 (fun i => FP.i2d (uB u1 i))), ((ad 7), aD q 16 (uF u1))] ++ TW (uN u1) (WQ q (uC u1))) H := hP
      have hD : va_D A ([((ad 0), .inr (3, [.ref (ad 1), .ref (ad 2), .int (nI (uN u1))])), ((ad 2), aF q 6 (fun j => if j < uN u1 then some (uO u1 j) else none)), ((ad 1), .inr (1, [.ref (ad 3), .ref (ad 4), .ref (ad 5), .ref (ad 6), .ref (ad 7), .double (uM u1), .int (nI (uT u1))])), ((ad 3), aI q 8 (uP u1)), ((ad 4), aD q 8 (fun i => FP.i2d (uX u1 i))), ((ad 5), aD q 16 (fun i => FP.i2d (uA u1 i))), ((ad 6), aD q 16 (fun i => FP.i2d (uB u1 i))), ((ad 7), aD q 16 (uF u1))] ++ TW (uN u1) (WQ q (uC u1))) := hD
      have hA : vAct v V = vWeight ((lowV (v >>> (5 &&& 31)) 9) - 1) ((lowV (v >>> (8 &&& 31)) 11) - 1) V := by unfold vAct; rw [if_pos hcnd1]; unfold actO; rw [← hcs]; rw [selV_19]
      rw [← hA] at hw
      refine W.widen (k := 11) (n := 73) (Nat.le_of_ble_eq_true rfl) (Nat.le_of_ble_eq_true rfl) ?_
      have hP9 := hP
      have hD9 := hD
      refine W.endD hu59 ?_
      exact W.lret (v := r1) hx hb hr (fun t ht hW => ⟨⟨r1, u1, rfl, hw, by rw [ht]; exact hP9, hD9⟩, hS.F ht⟩) hS.2.2 dL_act_533
    · skip
      refine lv_tableIn (off := 402) (tgt := 534) hx hb dL_act_132 (by decide) (by decide) (by decide) (by decide) ?_
      refine lv_aload_n hx hb dL_act_534 rfl (lv_at hl 5 rfl) ?_
      refine lv_iload_n hx hb dL_act_535 rfl (lv_at hl 3 rfl) ?_
      refine lv_iload_n hx hb dL_act_536 rfl (lv_at hl 4 rfl) ?_
      refine lv_if_eq (tgt := 545) hx hb dL_act_537 (by decide) (fun h => absurd h (by decide)) (fun _ => ?_)
      refine lv_iload hx hb dL_act_540 (lv_at hl 1 rfl) ?_
      refine lv_goto (tgt := 553) hx hb dL_act_542 (by decide) ?_
      have hPc := hP.part (cx := [((ad 0), .inr (3, [.ref (ad 1), .ref (ad 2), .int (nI (uN u))])), ((ad 2), aF q 6 (fun j => if j < uN u then some (uO u j) else none)), ((ad 1), .inr (1, [.ref (ad 3), .ref (ad 4), .ref (ad 5), .ref (ad 6), .ref (ad 7), .double (uM u), .int (nI (uT u))])), ((ad 3), aI q 8 (uP u)), ((ad 4), aD q 8 (fun i => FP.i2d (uX u i))), ((ad 5), aD q 16 (fun i => FP.i2d (uA u i))), ((ad 6), aD q 16 (fun i => FP.i2d (uB u i))), ((ad 7), aD q 16 (uF u))]) [0, 1, 2, 3, 4, 5, 6, 7] rfl
      have hDc := hD.part (cx := [((ad 0), .inr (3, [.ref (ad 1), .ref (ad 2), .int (nI (uN u))])), ((ad 2), aF q 6 (fun j => if j < uN u then some (uO u j) else none)), ((ad 1), .inr (1, [.ref (ad 3), .ref (ad 4), .ref (ad 5), .ref (ad 6), .ref (ad 7), .double (uM u), .int (nI (uT u))])), ((ad 3), aI q 8 (uP u)), ((ad 4), aD q 8 (fun i => FP.i2d (uX u i))), ((ad 5), aD q 16 (fun i => FP.i2d (uA u i))), ((ad 6), aD q 16 (fun i => FP.i2d (uB u i))), ((ad 7), aD q 16 (uF u))]) [0, 1, 2, 3, 4, 5, 6, 7] (by decide) rfl
      have hFc := va_freeP (cx := [((ad 0), .inr (3, [.ref (ad 1), .ref (ad 2), .int (nI (uN u))])), ((ad 2), aF q 6 (fun j => if j < uN u then some (uO u j) else none)), ((ad 1), .inr (1, [.ref (ad 3), .ref (ad 4), .ref (ad 5), .ref (ad 6), .ref (ad 7), .double (uM u), .int (nI (uT u))])), ((ad 3), aI q 8 (uP u)), ((ad 4), aD q 8 (fun i => FP.i2d (uX u i))), ((ad 5), aD q 16 (fun i => FP.i2d (uA u i))), ((ad 6), aD q 16 (fun i => FP.i2d (uB u i))), ((ad 7), aD q 16 (uF u))]) hD hS hA [0, 1, 2, 3, 4, 5, 6, 7] rfl
      refine va_calllD hd0 (swd_run (As := [.ref (ad 0), .int ((lowV (v >>> (5 &&& 31)) 9) - 1), .int (v >>> (9 &&& 31))]) (rest := []) ⟨hx, hb, hml, hown, (dr_words hts s.drawn)⟩ (h_of hst ((lowV (v >>> (5 &&& 31)) 9) - 1) (v >>> (9 &&& 31)) G q H.size ad V u hu) (vx_cwSW 3 (dr_words hts s.drawn) gL_act_L_of rfl rfl rfl (by decide +kernel) ⟨Nat.le_of_ble_eq_true rfl, Nat.le_of_ble_eq_true rfl⟩) ⟨preY_blind, preY_start (s := s.setDrawn s.drawn) hPc hK hDc (hNF.drawn s.drawn) (hNT.drawn s.drawn) (hNC.drawn s.drawn) hS (fun q h => hFc q h)⟩ rfl rfl hl.1 rfl (lv_room (Nat.le_of_ble_eq_true rfl)) dL_act_553 ⟨(by show _ ≤ 11; omega), (by show _ ≤ 73; omega)⟩) hS (fun q _ h => hFc q h) hFc (fun r1 u9 t9 H1 locs ht9 hv99 hw hB9 hz9 hk9 hS du61 hu61 => ?_)
      obtain ⟨u1, rfl⟩ : ∃ z, z = u9 := ⟨_, rfl⟩
      obtain ⟨hP1, hD1⟩ := hB9
      rw [ht9] at hP1
      obtain ⟨hP, hD⟩ := va_joinP (wr := []) (rx := [((ad 0), .inr (3, [.ref (ad 1), .ref (ad 2), .int (nI (uN u1))])), ((ad 2), aF q 6 (fun j => if j < uN u1 then some (uO u1 j) else none)), ((ad 1), .inr (1, [.ref (ad 3), .ref (ad 4), .ref (ad 5), .ref (ad 6), .ref (ad 7), .double (uM u1), .int (nI (uT u1))])), ((ad 3), aI q 8 (uP u1)), ((ad 4), aD q 8 (fun i => FP.i2d (uX u1 i))), ((ad 5), aD q 16 (fun i => FP.i2d (uA u1 i))), ((ad 6), aD q 16 (fun i => FP.i2d (uB u1 i))), ((ad 7), aD q 16 (uF u1))]) (pl1 := TW (uN u1) (WQ q (uC u1))) hP hD [0, 1, 2, 3, 4, 5, 6, 7] [] rfl rfl (by decide) (by decide) hk9 hFc hP1 hD1
      generalize H1 = H at hP hS ⊢
      have hP : va_P G vwCl ([((ad 0), .inr (3, [.ref (ad 1), .ref (ad 2), .int (nI (uN u1))])), ((ad 2), aF q 6 (fun j => if j < uN u1 then some (uO u1 j) else none)), ((ad 1), .inr (1, [.ref (ad 3), .ref (ad 4), .ref (ad 5), .ref (ad 6), .ref (ad 7), .double (uM u1), .int (nI (uT u1))])), ((ad 3), aI q 8 (uP u1)), ((ad 4), aD q 8 (fun i => FP.i2d (uX u1 i))), ((ad 5), aD q 16 (fun i => FP.i2d (uA u1 i))), ((ad 6), aD q 16 (fun i => FP.i2d (uB u1 i))), ((ad 7), aD q 16 (uF u1))] ++ TW (uN u1) (WQ q (uC u1))) H := hP
      have hD : va_D A ([((ad 0), .inr (3, [.ref (ad 1), .ref (ad 2), .int (nI (uN u1))])), ((ad 2), aF q 6 (fun j => if j < uN u1 then some (uO u1 j) else none)), ((ad 1), .inr (1, [.ref (ad 3), .ref (ad 4), .ref (ad 5), .ref (ad 6), .ref (ad 7), .double (uM u1), .int (nI (uT u1))])), ((ad 3), aI q 8 (uP u1)), ((ad 4), aD q 8 (fun i => FP.i2d (uX u1 i))), ((ad 5), aD q 16 (fun i => FP.i2d (uA u1 i))), ((ad 6), aD q 16 (fun i => FP.i2d (uB u1 i))), ((ad 7), aD q 16 (uF u1))] ++ TW (uN u1) (WQ q (uC u1))) := hD
      have hA : vAct v V = vOf ((lowV (v >>> (5 &&& 31)) 9) - 1) (v >>> (9 &&& 31)) V := by unfold vAct; rw [if_pos hcnd1]; unfold actO; rw [← hcs]; rw [selV_20]
      rw [← hA] at hw
      refine W.widen (k := 11) (n := 73) (Nat.le_of_ble_eq_true rfl) (Nat.le_of_ble_eq_true rfl) ?_
      have hP9 := hP
      have hD9 := hD
      refine W.endD hu61 ?_
      exact W.lret (v := r1) hx hb hr (fun t ht hW => ⟨⟨r1, u1, rfl, hw, by rw [ht]; exact hP9, hD9⟩, hS.F ht⟩) hS.2.2 dL_act_556
    · skip
      refine lv_tableIn (off := 402) (tgt := 534) hx hb dL_act_132 (by decide) (by decide) (by decide) (by decide) ?_
      refine lv_aload_n hx hb dL_act_534 rfl (lv_at hl 5 rfl) ?_
      refine lv_iload_n hx hb dL_act_535 rfl (lv_at hl 3 rfl) ?_
      refine lv_iload_n hx hb dL_act_536 rfl (lv_at hl 4 rfl) ?_
      refine lv_if_eq (tgt := 545) hx hb dL_act_537 (by decide) (fun h => absurd h (by decide)) (fun _ => ?_)
      refine lv_iload hx hb dL_act_540 (lv_at hl 1 rfl) ?_
      refine lv_goto (tgt := 553) hx hb dL_act_542 (by decide) ?_
      have hPc := hP.part (cx := [((ad 0), .inr (3, [.ref (ad 1), .ref (ad 2), .int (nI (uN u))])), ((ad 2), aF q 6 (fun j => if j < uN u then some (uO u j) else none)), ((ad 1), .inr (1, [.ref (ad 3), .ref (ad 4), .ref (ad 5), .ref (ad 6), .ref (ad 7), .double (uM u), .int (nI (uT u))])), ((ad 3), aI q 8 (uP u)), ((ad 4), aD q 8 (fun i => FP.i2d (uX u i))), ((ad 5), aD q 16 (fun i => FP.i2d (uA u i))), ((ad 6), aD q 16 (fun i => FP.i2d (uB u i))), ((ad 7), aD q 16 (uF u))]) [0, 1, 2, 3, 4, 5, 6, 7] rfl
      have hDc := hD.part (cx := [((ad 0), .inr (3, [.ref (ad 1), .ref (ad 2), .int (nI (uN u))])), ((ad 2), aF q 6 (fun j => if j < uN u then some (uO u j) else none)), ((ad 1), .inr (1, [.ref (ad 3), .ref (ad 4), .ref (ad 5), .ref (ad 6), .ref (ad 7), .double (uM u), .int (nI (uT u))])), ((ad 3), aI q 8 (uP u)), ((ad 4), aD q 8 (fun i => FP.i2d (uX u i))), ((ad 5), aD q 16 (fun i => FP.i2d (uA u i))), ((ad 6), aD q 16 (fun i => FP.i2d (uB u i))), ((ad 7), aD q 16 (uF u))]) [0, 1, 2, 3, 4, 5, 6, 7] (by decide) rfl
      have hFc := va_freeP (cx := [((ad 0), .inr (3, [.ref (ad 1), .ref (ad 2), .int (nI (uN u))])), ((ad 2), aF q 6 (fun j => if j < uN u then some (uO u j) else none)), ((ad 1), .inr (1, [.ref (ad 3), .ref (ad 4), .ref (ad 5), .ref (ad 6), .ref (ad 7), .double (uM u), .int (nI (uT u))])), ((ad 3), aI q 8 (uP u)), ((ad 4), aD q 8 (fun i => FP.i2d (uX u i))), ((ad 5), aD q 16 (fun i => FP.i2d (uA u i))), ((ad 6), aD q 16 (fun i => FP.i2d (uB u i))), ((ad 7), aD q 16 (uF u))]) hD hS hA [0, 1, 2, 3, 4, 5, 6, 7] rfl
      refine va_calllD hd0 (swd_run (As := [.ref (ad 0), .int ((lowV (v >>> (5 &&& 31)) 9) - 1), .int (v >>> (9 &&& 31))]) (rest := []) ⟨hx, hb, hml, hown, (dr_words hts s.drawn)⟩ (h_of hst ((lowV (v >>> (5 &&& 31)) 9) - 1) (v >>> (9 &&& 31)) G q H.size ad V u hu) (vx_cwSW 3 (dr_words hts s.drawn) gL_act_L_of rfl rfl rfl (by decide +kernel) ⟨Nat.le_of_ble_eq_true rfl, Nat.le_of_ble_eq_true rfl⟩) ⟨preY_blind, preY_start (s := s.setDrawn s.drawn) hPc hK hDc (hNF.drawn s.drawn) (hNT.drawn s.drawn) (hNC.drawn s.drawn) hS (fun q h => hFc q h)⟩ rfl rfl hl.1 rfl (lv_room (Nat.le_of_ble_eq_true rfl)) dL_act_553 ⟨(by show _ ≤ 11; omega), (by show _ ≤ 73; omega)⟩) hS (fun q _ h => hFc q h) hFc (fun r1 u9 t9 H1 locs ht9 hv99 hw hB9 hz9 hk9 hS du63 hu63 => ?_)
      obtain ⟨u1, rfl⟩ : ∃ z, z = u9 := ⟨_, rfl⟩
      obtain ⟨hP1, hD1⟩ := hB9
      rw [ht9] at hP1
      obtain ⟨hP, hD⟩ := va_joinP (wr := []) (rx := [((ad 0), .inr (3, [.ref (ad 1), .ref (ad 2), .int (nI (uN u1))])), ((ad 2), aF q 6 (fun j => if j < uN u1 then some (uO u1 j) else none)), ((ad 1), .inr (1, [.ref (ad 3), .ref (ad 4), .ref (ad 5), .ref (ad 6), .ref (ad 7), .double (uM u1), .int (nI (uT u1))])), ((ad 3), aI q 8 (uP u1)), ((ad 4), aD q 8 (fun i => FP.i2d (uX u1 i))), ((ad 5), aD q 16 (fun i => FP.i2d (uA u1 i))), ((ad 6), aD q 16 (fun i => FP.i2d (uB u1 i))), ((ad 7), aD q 16 (uF u1))]) (pl1 := TW (uN u1) (WQ q (uC u1))) hP hD [0, 1, 2, 3, 4, 5, 6, 7] [] rfl rfl (by decide) (by decide) hk9 hFc hP1 hD1
      generalize H1 = H at hP hS ⊢
      have hP : va_P G vwCl ([((ad 0), .inr (3, [.ref (ad 1), .ref (ad 2), .int (nI (uN u1))])), ((ad 2), aF q 6 (fun j => if j < uN u1 then some (uO u1 j) else none)), ((ad 1), .inr (1, [.ref (ad 3), .ref (ad 4), .ref (ad 5), .ref (ad 6), .ref (ad 7), .double (uM u1), .int (nI (uT u1))])), ((ad 3), aI q 8 (uP u1)), ((ad 4), aD q 8 (fun i => FP.i2d (uX u1 i))), ((ad 5), aD q 16 (fun i => FP.i2d (uA u1 i))), ((ad 6), aD q 16 (fun i => FP.i2d (uB u1 i))), ((ad 7), aD q 16 (uF u1))] ++ TW (uN u1) (WQ q (uC u1))) H := hP
      have hD : va_D A ([((ad 0), .inr (3, [.ref (ad 1), .ref (ad 2), .int (nI (uN u1))])), ((ad 2), aF q 6 (fun j => if j < uN u1 then some (uO u1 j) else none)), ((ad 1), .inr (1, [.ref (ad 3), .ref (ad 4), .ref (ad 5), .ref (ad 6), .ref (ad 7), .double (uM u1), .int (nI (uT u1))])), ((ad 3), aI q 8 (uP u1)), ((ad 4), aD q 8 (fun i => FP.i2d (uX u1 i))), ((ad 5), aD q 16 (fun i => FP.i2d (uA u1 i))), ((ad 6), aD q 16 (fun i => FP.i2d (uB u1 i))), ((ad 7), aD q 16 (uF u1))] ++ TW (uN u1) (WQ q (uC u1))) := hD
      have hA : vAct v V = vOf ((lowV (v >>> (5 &&& 31)) 9) - 1) (v >>> (9 &&& 31)) V := by unfold vAct; rw [if_pos hcnd1]; unfold actO; rw [← hcs]; rw [selV_21]
      rw [← hA] at hw
      refine W.widen (k := 11) (n := 73) (Nat.le_of_ble_eq_true rfl) (Nat.le_of_ble_eq_true rfl) ?_
      have hP9 := hP
      have hD9 := hD
      refine W.endD hu63 ?_
      exact W.lret (v := r1) hx hb hr (fun t ht hW => ⟨⟨r1, u1, rfl, hw, by rw [ht]; exact hP9, hD9⟩, hS.F ht⟩) hS.2.2 dL_act_556
    · skip
      refine lv_tableIn (off := 425) (tgt := 557) hx hb dL_act_132 (by decide) (by decide) (by decide) (by decide) ?_
      refine lv_aload_n hx hb dL_act_557 rfl (lv_at hl 5 rfl) ?_
      refine lv_iload_n hx hb dL_act_558 rfl (lv_at hl 4 rfl) ?_
      refine lv_if_eq (tgt := 567) hx hb dL_act_559 (by decide) (fun h => absurd h (by decide)) (fun _ => ?_)
      refine lv_iload hx hb dL_act_562 (lv_at hl 1 rfl) ?_
      refine lv_goto (tgt := 575) hx hb dL_act_564 (by decide) ?_
      have hPc := hP.part (cx := [((ad 0), .inr (3, [.ref (ad 1), .ref (ad 2), .int (nI (uN u))])), ((ad 2), aF q 6 (fun j => if j < uN u then some (uO u j) else none)), ((ad 1), .inr (1, [.ref (ad 3), .ref (ad 4), .ref (ad 5), .ref (ad 6), .ref (ad 7), .double (uM u), .int (nI (uT u))])), ((ad 3), aI q 8 (uP u)), ((ad 4), aD q 8 (fun i => FP.i2d (uX u i))), ((ad 5), aD q 16 (fun i => FP.i2d (uA u i))), ((ad 6), aD q 16 (fun i => FP.i2d (uB u i))), ((ad 7), aD q 16 (uF u))]) [0, 1, 2, 3, 4, 5, 6, 7] rfl
      have hDc := hD.part (cx := [((ad 0), .inr (3, [.ref (ad 1), .ref (ad 2), .int (nI (uN u))])), ((ad 2), aF q 6 (fun j => if j < uN u then some (uO u j) else none)), ((ad 1), .inr (1, [.ref (ad 3), .ref (ad 4), .ref (ad 5), .ref (ad 6), .ref (ad 7), .double (uM u), .int (nI (uT u))])), ((ad 3), aI q 8 (uP u)), ((ad 4), aD q 8 (fun i => FP.i2d (uX u i))), ((ad 5), aD q 16 (fun i => FP.i2d (uA u i))), ((ad 6), aD q 16 (fun i => FP.i2d (uB u i))), ((ad 7), aD q 16 (uF u))]) [0, 1, 2, 3, 4, 5, 6, 7] (by decide) rfl
      have hFc := va_freeP (cx := [((ad 0), .inr (3, [.ref (ad 1), .ref (ad 2), .int (nI (uN u))])), ((ad 2), aF q 6 (fun j => if j < uN u then some (uO u j) else none)), ((ad 1), .inr (1, [.ref (ad 3), .ref (ad 4), .ref (ad 5), .ref (ad 6), .ref (ad 7), .double (uM u), .int (nI (uT u))])), ((ad 3), aI q 8 (uP u)), ((ad 4), aD q 8 (fun i => FP.i2d (uX u i))), ((ad 5), aD q 16 (fun i => FP.i2d (uA u i))), ((ad 6), aD q 16 (fun i => FP.i2d (uB u i))), ((ad 7), aD q 16 (uF u))]) hD hS hA [0, 1, 2, 3, 4, 5, 6, 7] rfl
      refine va_calllD hd0 (swd_run (As := [.ref (ad 0), .int (v >>> (9 &&& 31))]) (rest := []) ⟨hx, hb, hml, hown, (dr_words hts s.drawn)⟩ (h_batch hst (v >>> (9 &&& 31)) G q H.size ad V u hu) (vx_cwSW 2 (dr_words hts s.drawn) gL_act_L_batch rfl rfl rfl (by decide +kernel) ⟨Nat.le_of_ble_eq_true rfl, Nat.le_of_ble_eq_true rfl⟩) ⟨preY_blind, preY_start (s := s.setDrawn s.drawn) hPc hK hDc (hNF.drawn s.drawn) (hNT.drawn s.drawn) (hNC.drawn s.drawn) hS (fun q h => hFc q h)⟩ rfl rfl hl.1 rfl (lv_room (Nat.le_of_ble_eq_true rfl)) dL_act_575 ⟨(by show _ ≤ 11; omega), (by show _ ≤ 73; omega)⟩) hS (fun q _ h => hFc q h) hFc (fun r1 u9 t9 H1 locs ht9 hv99 hw hB9 hz9 hk9 hS du65 hu65 => ?_)
      obtain ⟨u1, rfl⟩ : ∃ z, z = u9 := ⟨_, rfl⟩
      obtain ⟨hP1, hD1⟩ := hB9
      rw [ht9] at hP1
      obtain ⟨hP, hD⟩ := va_joinP (wr := []) (rx := [((ad 0), .inr (3, [.ref (ad 1), .ref (ad 2), .int (nI (uN u1))])), ((ad 2), aF q 6 (fun j => if j < uN u1 then some (uO u1 j) else none)), ((ad 1), .inr (1, [.ref (ad 3), .ref (ad 4), .ref (ad 5), .ref (ad 6), .ref (ad 7), .double (uM u1), .int (nI (uT u1))])), ((ad 3), aI q 8 (uP u1)), ((ad 4), aD q 8 (fun i => FP.i2d (uX u1 i))), ((ad 5), aD q 16 (fun i => FP.i2d (uA u1 i))), ((ad 6), aD q 16 (fun i => FP.i2d (uB u1 i))), ((ad 7), aD q 16 (uF u1))]) (pl1 := TW (uN u1) (WQ q (uC u1))) hP hD [0, 1, 2, 3, 4, 5, 6, 7] [] rfl rfl (by decide) (by decide) hk9 hFc hP1 hD1
      generalize H1 = H at hP hS ⊢
      have hP : va_P G vwCl ([((ad 0), .inr (3, [.ref (ad 1), .ref (ad 2), .int (nI (uN u1))])), ((ad 2), aF q 6 (fun j => if j < uN u1 then some (uO u1 j) else none)), ((ad 1), .inr (1, [.ref (ad 3), .ref (ad 4), .ref (ad 5), .ref (ad 6), .ref (ad 7), .double (uM u1), .int (nI (uT u1))])), ((ad 3), aI q 8 (uP u1)), ((ad 4), aD q 8 (fun i => FP.i2d (uX u1 i))), ((ad 5), aD q 16 (fun i => FP.i2d (uA u1 i))), ((ad 6), aD q 16 (fun i => FP.i2d (uB u1 i))), ((ad 7), aD q 16 (uF u1))] ++ TW (uN u1) (WQ q (uC u1))) H := hP
      have hD : va_D A ([((ad 0), .inr (3, [.ref (ad 1), .ref (ad 2), .int (nI (uN u1))])), ((ad 2), aF q 6 (fun j => if j < uN u1 then some (uO u1 j) else none)), ((ad 1), .inr (1, [.ref (ad 3), .ref (ad 4), .ref (ad 5), .ref (ad 6), .ref (ad 7), .double (uM u1), .int (nI (uT u1))])), ((ad 3), aI q 8 (uP u1)), ((ad 4), aD q 8 (fun i => FP.i2d (uX u1 i))), ((ad 5), aD q 16 (fun i => FP.i2d (uA u1 i))), ((ad 6), aD q 16 (fun i => FP.i2d (uB u1 i))), ((ad 7), aD q 16 (uF u1))] ++ TW (uN u1) (WQ q (uC u1))) := hD
      have hA : vAct v V = vBatch (v >>> (9 &&& 31)) V := by unfold vAct; rw [if_pos hcnd1]; unfold actO; rw [← hcs]; rw [selV_22]
      rw [← hA] at hw
      refine W.widen (k := 11) (n := 73) (Nat.le_of_ble_eq_true rfl) (Nat.le_of_ble_eq_true rfl) ?_
      have hP9 := hP
      have hD9 := hD
      refine W.endD hu65 ?_
      exact W.lret (v := r1) hx hb hr (fun t ht hW => ⟨⟨r1, u1, rfl, hw, by rw [ht]; exact hP9, hD9⟩, hS.F ht⟩) hS.2.2 dL_act_578
    · skip
      refine lv_tableIn (off := 447) (tgt := 579) hx hb dL_act_132 (by decide) (by decide) (by decide) (by decide) ?_
      refine lv_aload_n hx hb dL_act_579 rfl (lv_at hl 5 rfl) ?_
      refine lv_iload_n hx hb dL_act_580 rfl (lv_at hl 3 rfl) ?_
      refine lv_iload hx hb dL_act_581 (lv_at hl 2 rfl) ?_
      refine lv_iload_n hx hb dL_act_583 rfl (lv_at hl 4 rfl) ?_
      refine lv_if_eq (tgt := 592) hx hb dL_act_584 (by decide) (fun h => absurd h (by decide)) (fun _ => ?_)
      refine lv_iload hx hb dL_act_587 (lv_at hl 0 rfl) ?_
      refine lv_goto (tgt := 600) hx hb dL_act_589 (by decide) ?_
      have hPc := hP.part (cx := [((ad 0), .inr (3, [.ref (ad 1), .ref (ad 2), .int (nI (uN u))])), ((ad 2), aF q 6 (fun j => if j < uN u then some (uO u j) else none)), ((ad 1), .inr (1, [.ref (ad 3), .ref (ad 4), .ref (ad 5), .ref (ad 6), .ref (ad 7), .double (uM u), .int (nI (uT u))])), ((ad 3), aI q 8 (uP u)), ((ad 4), aD q 8 (fun i => FP.i2d (uX u i))), ((ad 5), aD q 16 (fun i => FP.i2d (uA u i))), ((ad 6), aD q 16 (fun i => FP.i2d (uB u i))), ((ad 7), aD q 16 (uF u))]) [0, 1, 2, 3, 4, 5, 6, 7] rfl
      have hDc := hD.part (cx := [((ad 0), .inr (3, [.ref (ad 1), .ref (ad 2), .int (nI (uN u))])), ((ad 2), aF q 6 (fun j => if j < uN u then some (uO u j) else none)), ((ad 1), .inr (1, [.ref (ad 3), .ref (ad 4), .ref (ad 5), .ref (ad 6), .ref (ad 7), .double (uM u), .int (nI (uT u))])), ((ad 3), aI q 8 (uP u)), ((ad 4), aD q 8 (fun i => FP.i2d (uX u i))), ((ad 5), aD q 16 (fun i => FP.i2d (uA u i))), ((ad 6), aD q 16 (fun i => FP.i2d (uB u i))), ((ad 7), aD q 16 (uF u))]) [0, 1, 2, 3, 4, 5, 6, 7] (by decide) rfl
      have hFc := va_freeP (cx := [((ad 0), .inr (3, [.ref (ad 1), .ref (ad 2), .int (nI (uN u))])), ((ad 2), aF q 6 (fun j => if j < uN u then some (uO u j) else none)), ((ad 1), .inr (1, [.ref (ad 3), .ref (ad 4), .ref (ad 5), .ref (ad 6), .ref (ad 7), .double (uM u), .int (nI (uT u))])), ((ad 3), aI q 8 (uP u)), ((ad 4), aD q 8 (fun i => FP.i2d (uX u i))), ((ad 5), aD q 16 (fun i => FP.i2d (uA u i))), ((ad 6), aD q 16 (fun i => FP.i2d (uB u i))), ((ad 7), aD q 16 (uF u))]) hD hS hA [0, 1, 2, 3, 4, 5, 6, 7] rfl
      refine va_calllD hd0 (swd_run (As := [.ref (ad 0), .int ((lowV (v >>> (5 &&& 31)) 9) - 1), .int ((lowV (v >>> (8 &&& 31)) 11) - 1), .int ((lowV (v >>> (11 &&& 31)) 7) - 1)]) (rest := []) ⟨hx, hb, hml, hown, (dr_words hts s.drawn)⟩ (h_square hst ((lowV (v >>> (5 &&& 31)) 9) - 1) ((lowV (v >>> (8 &&& 31)) 11) - 1) ((lowV (v >>> (11 &&& 31)) 7) - 1) G q H.size ad V u hu) (vx_cwSW 4 (dr_words hts s.drawn) gL_act_L_square rfl rfl rfl (by decide +kernel) ⟨Nat.le_of_ble_eq_true rfl, Nat.le_of_ble_eq_true rfl⟩) ⟨preY_blind, preY_start (s := s.setDrawn s.drawn) hPc hK hDc (hNF.drawn s.drawn) (hNT.drawn s.drawn) (hNC.drawn s.drawn) hS (fun q h => hFc q h)⟩ rfl rfl hl.1 rfl (lv_room (Nat.le_of_ble_eq_true rfl)) dL_act_600 ⟨(by show _ ≤ 11; omega), (by show _ ≤ 73; omega)⟩) hS (fun q _ h => hFc q h) hFc (fun r1 u9 t9 H1 locs ht9 hv99 hw hB9 hz9 hk9 hS du67 hu67 => ?_)
      obtain ⟨u1, rfl⟩ : ∃ z, z = u9 := ⟨_, rfl⟩
      obtain ⟨hP1, hD1⟩ := hB9
      rw [ht9] at hP1
      obtain ⟨hP, hD⟩ := va_joinP (wr := []) (rx := [((ad 0), .inr (3, [.ref (ad 1), .ref (ad 2), .int (nI (uN u1))])), ((ad 2), aF q 6 (fun j => if j < uN u1 then some (uO u1 j) else none)), ((ad 1), .inr (1, [.ref (ad 3), .ref (ad 4), .ref (ad 5), .ref (ad 6), .ref (ad 7), .double (uM u1), .int (nI (uT u1))])), ((ad 3), aI q 8 (uP u1)), ((ad 4), aD q 8 (fun i => FP.i2d (uX u1 i))), ((ad 5), aD q 16 (fun i => FP.i2d (uA u1 i))), ((ad 6), aD q 16 (fun i => FP.i2d (uB u1 i))), ((ad 7), aD q 16 (uF u1))]) (pl1 := TW (uN u1) (WQ q (uC u1))) hP hD [0, 1, 2, 3, 4, 5, 6, 7] [] rfl rfl (by decide) (by decide) hk9 hFc hP1 hD1
      generalize H1 = H at hP hS ⊢
      have hP : va_P G vwCl ([((ad 0), .inr (3, [.ref (ad 1), .ref (ad 2), .int (nI (uN u1))])), ((ad 2), aF q 6 (fun j => if j < uN u1 then some (uO u1 j) else none)), ((ad 1), .inr (1, [.ref (ad 3), .ref (ad 4), .ref (ad 5), .ref (ad 6), .ref (ad 7), .double (uM u1), .int (nI (uT u1))])), ((ad 3), aI q 8 (uP u1)), ((ad 4), aD q 8 (fun i => FP.i2d (uX u1 i))), ((ad 5), aD q 16 (fun i => FP.i2d (uA u1 i))), ((ad 6), aD q 16 (fun i => FP.i2d (uB u1 i))), ((ad 7), aD q 16 (uF u1))] ++ TW (uN u1) (WQ q (uC u1))) H := hP
      have hD : va_D A ([((ad 0), .inr (3, [.ref (ad 1), .ref (ad 2), .int (nI (uN u1))])), ((ad 2), aF q 6 (fun j => if j < uN u1 then some (uO u1 j) else none)), ((ad 1), .inr (1, [.ref (ad 3), .ref (ad 4), .ref (ad 5), .ref (ad 6), .ref (ad 7), .double (uM u1), .int (nI (uT u1))])), ((ad 3), aI q 8 (uP u1)), ((ad 4), aD q 8 (fun i => FP.i2d (uX u1 i))), ((ad 5), aD q 16 (fun i => FP.i2d (uA u1 i))), ((ad 6), aD q 16 (fun i => FP.i2d (uB u1 i))), ((ad 7), aD q 16 (uF u1))] ++ TW (uN u1) (WQ q (uC u1))) := hD
      have hA : vAct v V = vSquare ((lowV (v >>> (5 &&& 31)) 9) - 1) ((lowV (v >>> (8 &&& 31)) 11) - 1) ((lowV (v >>> (11 &&& 31)) 7) - 1) V := by unfold vAct; rw [if_pos hcnd1]; unfold actO; rw [← hcs]; rw [selV_23]
      rw [← hA] at hw
      refine W.widen (k := 11) (n := 73) (Nat.le_of_ble_eq_true rfl) (Nat.le_of_ble_eq_true rfl) ?_
      have hP9 := hP
      have hD9 := hD
      refine W.endD hu67 ?_
      exact W.lret (v := r1) hx hb hr (fun t ht hW => ⟨⟨r1, u1, rfl, hw, by rw [ht]; exact hP9, hD9⟩, hS.F ht⟩) hS.2.2 dL_act_603
    · skip
      refine lv_tableIn (off := 472) (tgt := 604) hx hb dL_act_132 (by decide) (by decide) (by decide) (by decide) ?_
      refine lv_aload_n hx hb dL_act_604 rfl (lv_at hl 5 rfl) ?_
      have hPc := hP.part (cx := [((ad 0), .inr (3, [.ref (ad 1), .ref (ad 2), .int (nI (uN u))])), ((ad 2), aF q 6 (fun j => if j < uN u then some (uO u j) else none)), ((ad 1), .inr (1, [.ref (ad 3), .ref (ad 4), .ref (ad 5), .ref (ad 6), .ref (ad 7), .double (uM u), .int (nI (uT u))])), ((ad 3), aI q 8 (uP u))]) [0, 1, 2, 3] rfl
      have hDc := hD.part (cx := [((ad 0), .inr (3, [.ref (ad 1), .ref (ad 2), .int (nI (uN u))])), ((ad 2), aF q 6 (fun j => if j < uN u then some (uO u j) else none)), ((ad 1), .inr (1, [.ref (ad 3), .ref (ad 4), .ref (ad 5), .ref (ad 6), .ref (ad 7), .double (uM u), .int (nI (uT u))])), ((ad 3), aI q 8 (uP u))]) [0, 1, 2, 3] (by decide) rfl
      have hFc := va_freeP (cx := [((ad 0), .inr (3, [.ref (ad 1), .ref (ad 2), .int (nI (uN u))])), ((ad 2), aF q 6 (fun j => if j < uN u then some (uO u j) else none)), ((ad 1), .inr (1, [.ref (ad 3), .ref (ad 4), .ref (ad 5), .ref (ad 6), .ref (ad 7), .double (uM u), .int (nI (uT u))])), ((ad 3), aI q 8 (uP u))]) hD hS hA [0, 1, 2, 3] rfl
      refine va_calliD hd0 (va_runV_D (As := []) (rest := []) ⟨hx, hb, hml, hown, (dr_words hts s.drawn)⟩ (m_X3_best l G q H.size (ad 0) (ad 1) (ad 2) (uN u) (ad 3) (ad 4) (ad 5) (ad 6) (ad 7) (uT u) (uM u) (uP u) (uC u) (uO u) hu.2.1 hu.2.2.2.2.2.2.1 (fun g hg => (hu.2.2.2.2.2.2.2 g hg).2.1)) (cwV 0 (dr_words hts s.drawn) gL_act_X3_best rfl rfl rfl (by decide +kernel) ⟨Nat.le_of_ble_eq_true rfl, Nat.le_of_ble_eq_true rfl⟩) ⟨preW_blind, (va_recv hK hPc (ci := 3) (q0 := 0) rfl rfl), preW_start (s := s.setDrawn s.drawn) hPc hK hDc (hNF.drawn s.drawn)⟩ rfl rfl hl.1 rfl (lv_room (Nat.le_of_ble_eq_true rfl)) dL_act_605 ⟨(by show _ ≤ 11; omega), (by show _ ≤ 73; omega)⟩) hS (fun q _ h => hFc q h) hFc (fun r2 u9 t9 H1 locs ht9 hv9 hw hB9 hz9 hk9 hS du68 hu68 => ?_)
      obtain ⟨⟩ := u9
      obtain ⟨hP1, hD1⟩ := hB9
      rw [ht9] at hP1
      obtain ⟨hP, hD⟩ := va_joinP (wr := [((ad 4), aD q 8 (fun i => FP.i2d (uX u i))), ((ad 5), aD q 16 (fun i => FP.i2d (uA u i))), ((ad 6), aD q 16 (fun i => FP.i2d (uB u i))), ((ad 7), aD q 16 (uF u))]) (rx := [((ad 0), .inr (3, [.ref (ad 1), .ref (ad 2), .int (nI (uN u))])), ((ad 2), aF q 6 (fun j => if j < uN u then some (uO u j) else none)), ((ad 1), .inr (1, [.ref (ad 3), .ref (ad 4), .ref (ad 5), .ref (ad 6), .ref (ad 7), .double (uM u), .int (nI (uT u))])), ((ad 3), aI q 8 (uP u))]) (pl1 := TW (uN u) (WQ q (uC u))) hP hD [0, 1, 2, 3] [4, 5, 6, 7] rfl rfl (by decide) (by decide) hk9 hFc hP1 hD1
      generalize H1 = H at hP hS ⊢
      have hP : va_P G vwCl ([((ad 4), aD q 8 (fun i => FP.i2d (uX u i))), ((ad 5), aD q 16 (fun i => FP.i2d (uA u i))), ((ad 6), aD q 16 (fun i => FP.i2d (uB u i))), ((ad 7), aD q 16 (uF u)), ((ad 0), .inr (3, [.ref (ad 1), .ref (ad 2), .int (nI (uN u))])), ((ad 2), aF q 6 (fun j => if j < uN u then some (uO u j) else none)), ((ad 1), .inr (1, [.ref (ad 3), .ref (ad 4), .ref (ad 5), .ref (ad 6), .ref (ad 7), .double (uM u), .int (nI (uT u))])), ((ad 3), aI q 8 (uP u))] ++ TW (uN u) (WQ q (uC u))) H := hP
      have hD : va_D A ([((ad 4), aD q 8 (fun i => FP.i2d (uX u i))), ((ad 5), aD q 16 (fun i => FP.i2d (uA u i))), ((ad 6), aD q 16 (fun i => FP.i2d (uB u i))), ((ad 7), aD q 16 (uF u)), ((ad 0), .inr (3, [.ref (ad 1), .ref (ad 2), .int (nI (uN u))])), ((ad 2), aF q 6 (fun j => if j < uN u then some (uO u j) else none)), ((ad 1), .inr (1, [.ref (ad 3), .ref (ad 4), .ref (ad 5), .ref (ad 6), .ref (ad 7), .double (uM u), .int (nI (uT u))])), ((ad 3), aI q 8 (uP u))] ++ TW (uN u) (WQ q (uC u))) := hD
      have hb2 := hw
      refine lv_i2l (v := r2.toInt64) hx hb dL_act_608 rfl ?_
      have hA : vAct v V = vBest V := by unfold vAct; rw [if_pos hcnd1]; unfold actO; rw [← hcs]; rw [selV_24]
      have hw : (r2).toInt64 = (vBest V).1 ∧ bOk (vBest V).2 u := ⟨by rw [hb2, best_V hu]; rfl, hu⟩
      rw [← hA] at hw
      refine W.widen (k := 11) (n := 73) (Nat.le_of_ble_eq_true rfl) (Nat.le_of_ble_eq_true rfl) ?_
      have hP := hP.part (cx := [((ad 0), .inr (3, [.ref (ad 1), .ref (ad 2), .int (nI (uN u))])), ((ad 2), aF q 6 (fun j => if j < uN u then some (uO u j) else none)), ((ad 1), .inr (1, [.ref (ad 3), .ref (ad 4), .ref (ad 5), .ref (ad 6), .ref (ad 7), .double (uM u), .int (nI (uT u))])), ((ad 3), aI q 8 (uP u)), ((ad 4), aD q 8 (fun i => FP.i2d (uX u i))), ((ad 5), aD q 16 (fun i => FP.i2d (uA u i))), ((ad 6), aD q 16 (fun i => FP.i2d (uB u i))), ((ad 7), aD q 16 (uF u))]) [4, 5, 6, 7, 0, 1, 2, 3] rfl
      have hD := hD.part (cx := [((ad 0), .inr (3, [.ref (ad 1), .ref (ad 2), .int (nI (uN u))])), ((ad 2), aF q 6 (fun j => if j < uN u then some (uO u j) else none)), ((ad 1), .inr (1, [.ref (ad 3), .ref (ad 4), .ref (ad 5), .ref (ad 6), .ref (ad 7), .double (uM u), .int (nI (uT u))])), ((ad 3), aI q 8 (uP u)), ((ad 4), aD q 8 (fun i => FP.i2d (uX u i))), ((ad 5), aD q 16 (fun i => FP.i2d (uA u i))), ((ad 6), aD q 16 (fun i => FP.i2d (uB u i))), ((ad 7), aD q 16 (uF u))]) [4, 5, 6, 7, 0, 1, 2, 3] (by decide) rfl
      have hP9 := hP
      have hD9 := hD
      refine W.endD hu68 ?_
      exact W.lret (v := r2.toInt64) hx hb hr (fun t ht hW => ⟨⟨r2.toInt64, u, rfl, hw, by rw [ht]; exact hP9, hD9⟩, hS.F ht⟩) hS.2.2 dL_act_609
  · skip
    refine lv_if_ne (tgt := 16) hx hb dL_act_9 (by decide) (fun _ => ?_) (fun h => absurd h hcnd1)
    refine lv_iconst (v := 0) hx hb dL_act_16 (by decide) ?_
    refine lv_istore_n (lv' := [(2, .int 0), (0, .ref (ad 0)), (1, .int v)]) hx hb dL_act_17 rfl hl (by decide) rfl (fun ls hl => ?_)
    refine lv_iload_n hx hb dL_act_18 rfl (lv_at hl 0 rfl) ?_
    refine lv_if_eq (tgt := 35) hx hb dL_act_19 (by decide) (fun _ => ?_) (fun h => absurd (by decide) h)
    refine lv_iload_n hx hb dL_act_35 rfl (lv_at hl 2 rfl) ?_
    refine lv_iconst (v := 5) hx hb dL_act_36 (by decide) ?_
    refine lv_ishr hx hb dL_act_37 ?_
    refine lv_iconst (v := 3) hx hb dL_act_38 (by decide) ?_
    have hPc := hP.sub (ws' := []) [] rfl
    have hDc := hD.sub (ws' := []) [] (by decide) rfl
    have hFc := va_free (wc := []) hD hS hA [] rfl
    refine va_calli (va_runS (As := [.int (v >>> (5 &&& 31)), .int 3]) (rest := []) ⟨hx, hb, hml, hown, (dr_words hts s.drawn)⟩ (m_L_low l G q H.size (v >>> (5 &&& 31)) 3 (by decide)) (va_cwS 2 (dr_words hts s.drawn) gL_act_L_low rfl rfl rfl (by decide +kernel) ⟨Nat.le_of_ble_eq_true rfl, Nat.le_of_ble_eq_true rfl⟩) ⟨preW_blind, preW_start (s := s.setDrawn s.drawn) hPc hK hDc (hNF.drawn s.drawn)⟩ rfl rfl hl.1 rfl (lv_room (Nat.le_of_ble_eq_true rfl)) dL_act_39 ⟨(by show _ ≤ 11; omega), (by show _ ≤ 73; omega)⟩) hS (fun q _ h => hFc q h) hFc (fun rl u9 t9 H1 locs ht9 hv9 hw hB9 hz9 hk9 hS => ?_)
    obtain ⟨⟩ := u9
    obtain ⟨hP1, hD1⟩ := hB9
    rw [ht9] at hP1
    obtain ⟨hP, hD⟩ := va_joinQ (wr := [((ad 0), .inr (3, [.ref (ad 1), .ref (ad 2), .int (nI (uN u))])), ((ad 2), aF q 6 (fun j => if j < uN u then some (uO u j) else none)), ((ad 1), .inr (1, [.ref (ad 3), .ref (ad 4), .ref (ad 5), .ref (ad 6), .ref (ad 7), .double (uM u), .int (nI (uT u))])), ((ad 3), aI q 8 (uP u)), ((ad 4), aD q 8 (fun i => FP.i2d (uX u i))), ((ad 5), aD q 16 (fun i => FP.i2d (uA u i))), ((ad 6), aD q 16 (fun i => FP.i2d (uB u i))), ((ad 7), aD q 16 (uF u))]) (w1 := []) hP hD [] [0, 1, 2, 3, 4, 5, 6, 7] rfl rfl (by decide) (by decide) hk9 hFc hP1 hD1
    generalize H1 = H at hP hS ⊢
    have hP : va_P G vwCl ([((ad 0), .inr (3, [.ref (ad 1), .ref (ad 2), .int (nI (uN u))])), ((ad 2), aF q 6 (fun j => if j < uN u then some (uO u j) else none)), ((ad 1), .inr (1, [.ref (ad 3), .ref (ad 4), .ref (ad 5), .ref (ad 6), .ref (ad 7), .double (uM u), .int (nI (uT u))])), ((ad 3), aI q 8 (uP u)), ((ad 4), aD q 8 (fun i => FP.i2d (uX u i))), ((ad 5), aD q 16 (fun i => FP.i2d (uA u i))), ((ad 6), aD q 16 (fun i => FP.i2d (uB u i))), ((ad 7), aD q 16 (uF u))] ++ TW (uN u) (WQ q (uC u))) H := hP
    have hD : va_D A ([((ad 0), .inr (3, [.ref (ad 1), .ref (ad 2), .int (nI (uN u))])), ((ad 2), aF q 6 (fun j => if j < uN u then some (uO u j) else none)), ((ad 1), .inr (1, [.ref (ad 3), .ref (ad 4), .ref (ad 5), .ref (ad 6), .ref (ad 7), .double (uM u), .int (nI (uT u))])), ((ad 3), aI q 8 (uP u)), ((ad 4), aD q 8 (fun i => FP.i2d (uX u i))), ((ad 5), aD q 16 (fun i => FP.i2d (uA u i))), ((ad 6), aD q 16 (fun i => FP.i2d (uB u i))), ((ad 7), aD q 16 (uF u))] ++ TW (uN u) (WQ q (uC u))) := hD
    try dsimp only at hw
    subst hw
    refine lv_istore_n (lv' := [(3, .int (lowV (v >>> (5 &&& 31)) 3)), (2, .int 0), (0, .ref (ad 0)), (1, .int v)]) hx hb dL_act_42 rfl hl (by decide) rfl (fun ls hl => ?_)
    refine lv_iload_n hx hb dL_act_43 rfl (lv_at hl 1 rfl) ?_
    refine lv_if_eq (tgt := 61) hx hb dL_act_44 (by decide) (fun _ => ?_) (fun h => absurd (by decide) h)
    refine lv_iload_n hx hb dL_act_61 rfl (lv_at hl 3 rfl) ?_
    refine lv_bipush (v := 8) hx hb dL_act_62 (by decide) ?_
    refine lv_ishr hx hb dL_act_64 ?_
    refine lv_iconst (v := 4) hx hb dL_act_65 (by decide) ?_
    have hPc := hP.sub (ws' := []) [] rfl
    have hDc := hD.sub (ws' := []) [] (by decide) rfl
    have hFc := va_free (wc := []) hD hS hA [] rfl
    refine va_calli (va_runS (As := [.int (v >>> (8 &&& 31)), .int 4]) (rest := []) ⟨hx, hb, hml, hown, (dr_words hts s.drawn)⟩ (m_L_low l G q H.size (v >>> (8 &&& 31)) 4 (by decide)) (va_cwS 2 (dr_words hts s.drawn) gL_act_L_low rfl rfl rfl (by decide +kernel) ⟨Nat.le_of_ble_eq_true rfl, Nat.le_of_ble_eq_true rfl⟩) ⟨preW_blind, preW_start (s := s.setDrawn s.drawn) hPc hK hDc (hNF.drawn s.drawn)⟩ rfl rfl hl.1 rfl (lv_room (Nat.le_of_ble_eq_true rfl)) dL_act_66 ⟨(by show _ ≤ 11; omega), (by show _ ≤ 73; omega)⟩) hS (fun q _ h => hFc q h) hFc (fun rl u9 t9 H1 locs ht9 hv9 hw hB9 hz9 hk9 hS => ?_)
    obtain ⟨⟩ := u9
    obtain ⟨hP1, hD1⟩ := hB9
    rw [ht9] at hP1
    obtain ⟨hP, hD⟩ := va_joinQ (wr := [((ad 0), .inr (3, [.ref (ad 1), .ref (ad 2), .int (nI (uN u))])), ((ad 2), aF q 6 (fun j => if j < uN u then some (uO u j) else none)), ((ad 1), .inr (1, [.ref (ad 3), .ref (ad 4), .ref (ad 5), .ref (ad 6), .ref (ad 7), .double (uM u), .int (nI (uT u))])), ((ad 3), aI q 8 (uP u)), ((ad 4), aD q 8 (fun i => FP.i2d (uX u i))), ((ad 5), aD q 16 (fun i => FP.i2d (uA u i))), ((ad 6), aD q 16 (fun i => FP.i2d (uB u i))), ((ad 7), aD q 16 (uF u))]) (w1 := []) hP hD [] [0, 1, 2, 3, 4, 5, 6, 7] rfl rfl (by decide) (by decide) hk9 hFc hP1 hD1
    generalize H1 = H at hP hS ⊢
    have hP : va_P G vwCl ([((ad 0), .inr (3, [.ref (ad 1), .ref (ad 2), .int (nI (uN u))])), ((ad 2), aF q 6 (fun j => if j < uN u then some (uO u j) else none)), ((ad 1), .inr (1, [.ref (ad 3), .ref (ad 4), .ref (ad 5), .ref (ad 6), .ref (ad 7), .double (uM u), .int (nI (uT u))])), ((ad 3), aI q 8 (uP u)), ((ad 4), aD q 8 (fun i => FP.i2d (uX u i))), ((ad 5), aD q 16 (fun i => FP.i2d (uA u i))), ((ad 6), aD q 16 (fun i => FP.i2d (uB u i))), ((ad 7), aD q 16 (uF u))] ++ TW (uN u) (WQ q (uC u))) H := hP
    have hD : va_D A ([((ad 0), .inr (3, [.ref (ad 1), .ref (ad 2), .int (nI (uN u))])), ((ad 2), aF q 6 (fun j => if j < uN u then some (uO u j) else none)), ((ad 1), .inr (1, [.ref (ad 3), .ref (ad 4), .ref (ad 5), .ref (ad 6), .ref (ad 7), .double (uM u), .int (nI (uT u))])), ((ad 3), aI q 8 (uP u)), ((ad 4), aD q 8 (fun i => FP.i2d (uX u i))), ((ad 5), aD q 16 (fun i => FP.i2d (uA u i))), ((ad 6), aD q 16 (fun i => FP.i2d (uB u i))), ((ad 7), aD q 16 (uF u))] ++ TW (uN u) (WQ q (uC u))) := hD
    try dsimp only at hw
    subst hw
    refine lv_istore (lv' := [(4, .int (lowV (v >>> (8 &&& 31)) 4)), (3, .int (lowV (v >>> (5 &&& 31)) 3)), (2, .int 0), (0, .ref (ad 0)), (1, .int v)]) hx hb dL_act_69 hl (by decide) rfl (fun ls hl => ?_)
    refine lv_iload_n hx hb dL_act_71 rfl (lv_at hl 2 rfl) ?_
    refine lv_if_eq (tgt := 82) hx hb dL_act_72 (by decide) (fun _ => ?_) (fun h => absurd (by decide) h)
    refine lv_iload_n hx hb dL_act_82 rfl (lv_at hl 4 rfl) ?_
    refine lv_bipush (v := 9) hx hb dL_act_83 (by decide) ?_
    refine lv_ishr hx hb dL_act_85 ?_
    refine lv_sipush (v := 900) hx hb dL_act_86 (by decide) ?_
    have hPc := hP.sub (ws' := []) [] rfl
    have hDc := hD.sub (ws' := []) [] (by decide) rfl
    have hFc := va_free (wc := []) hD hS hA [] rfl
    refine va_calli (va_runS (As := [.int (v >>> (9 &&& 31)), .int 900]) (rest := []) ⟨hx, hb, hml, hown, (dr_words hts s.drawn)⟩ (m_L_low l G q H.size (v >>> (9 &&& 31)) 900 (by decide)) (va_cwS 2 (dr_words hts s.drawn) gL_act_L_low rfl rfl rfl (by decide +kernel) ⟨Nat.le_of_ble_eq_true rfl, Nat.le_of_ble_eq_true rfl⟩) ⟨preW_blind, preW_start (s := s.setDrawn s.drawn) hPc hK hDc (hNF.drawn s.drawn)⟩ rfl rfl hl.1 rfl (lv_room (Nat.le_of_ble_eq_true rfl)) dL_act_89 ⟨(by show _ ≤ 11; omega), (by show _ ≤ 73; omega)⟩) hS (fun q _ h => hFc q h) hFc (fun rl u9 t9 H1 locs ht9 hv9 hw hB9 hz9 hk9 hS => ?_)
    obtain ⟨⟩ := u9
    obtain ⟨hP1, hD1⟩ := hB9
    rw [ht9] at hP1
    obtain ⟨hP, hD⟩ := va_joinQ (wr := [((ad 0), .inr (3, [.ref (ad 1), .ref (ad 2), .int (nI (uN u))])), ((ad 2), aF q 6 (fun j => if j < uN u then some (uO u j) else none)), ((ad 1), .inr (1, [.ref (ad 3), .ref (ad 4), .ref (ad 5), .ref (ad 6), .ref (ad 7), .double (uM u), .int (nI (uT u))])), ((ad 3), aI q 8 (uP u)), ((ad 4), aD q 8 (fun i => FP.i2d (uX u i))), ((ad 5), aD q 16 (fun i => FP.i2d (uA u i))), ((ad 6), aD q 16 (fun i => FP.i2d (uB u i))), ((ad 7), aD q 16 (uF u))]) (w1 := []) hP hD [] [0, 1, 2, 3, 4, 5, 6, 7] rfl rfl (by decide) (by decide) hk9 hFc hP1 hD1
    generalize H1 = H at hP hS ⊢
    have hP : va_P G vwCl ([((ad 0), .inr (3, [.ref (ad 1), .ref (ad 2), .int (nI (uN u))])), ((ad 2), aF q 6 (fun j => if j < uN u then some (uO u j) else none)), ((ad 1), .inr (1, [.ref (ad 3), .ref (ad 4), .ref (ad 5), .ref (ad 6), .ref (ad 7), .double (uM u), .int (nI (uT u))])), ((ad 3), aI q 8 (uP u)), ((ad 4), aD q 8 (fun i => FP.i2d (uX u i))), ((ad 5), aD q 16 (fun i => FP.i2d (uA u i))), ((ad 6), aD q 16 (fun i => FP.i2d (uB u i))), ((ad 7), aD q 16 (uF u))] ++ TW (uN u) (WQ q (uC u))) H := hP
    have hD : va_D A ([((ad 0), .inr (3, [.ref (ad 1), .ref (ad 2), .int (nI (uN u))])), ((ad 2), aF q 6 (fun j => if j < uN u then some (uO u j) else none)), ((ad 1), .inr (1, [.ref (ad 3), .ref (ad 4), .ref (ad 5), .ref (ad 6), .ref (ad 7), .double (uM u), .int (nI (uT u))])), ((ad 3), aI q 8 (uP u)), ((ad 4), aD q 8 (fun i => FP.i2d (uX u i))), ((ad 5), aD q 16 (fun i => FP.i2d (uA u i))), ((ad 6), aD q 16 (fun i => FP.i2d (uB u i))), ((ad 7), aD q 16 (uF u))] ++ TW (uN u) (WQ q (uC u))) := hD
    try dsimp only at hw
    subst hw
    refine lv_sipush (v := 450) hx hb dL_act_92 (by decide) ?_
    refine lv_isub hx hb dL_act_95 ?_
    refine lv_topi (fun x76 ex76 => ?_)
    obtain rfl : x76 = ((lowV (v >>> (9 &&& 31)) 900) - 450) := ex76
    refine lv_istore (lv' := [(5, .int ((lowV (v >>> (9 &&& 31)) 900) - 450)), (4, .int (lowV (v >>> (8 &&& 31)) 4)), (3, .int (lowV (v >>> (5 &&& 31)) 3)), (2, .int 0), (0, .ref (ad 0)), (1, .int v)]) hx hb dL_act_96 hl (by decide) rfl (fun ls hl => ?_)
    refine lv_iload_n hx hb dL_act_98 rfl (lv_at hl 3 rfl) ?_
    refine lv_if_eq (tgt := 116) hx hb dL_act_99 (by decide) (fun _ => ?_) (fun h => absurd (by decide) h)
    refine lv_iload_n hx hb dL_act_116 rfl (lv_at hl 5 rfl) ?_
    refine lv_bipush (v := 11) hx hb dL_act_117 (by decide) ?_
    refine lv_ishr hx hb dL_act_119 ?_
    refine lv_iconst (v := 4) hx hb dL_act_120 (by decide) ?_
    have hPc := hP.sub (ws' := []) [] rfl
    have hDc := hD.sub (ws' := []) [] (by decide) rfl
    have hFc := va_free (wc := []) hD hS hA [] rfl
    refine va_calli (va_runS (As := [.int (v >>> (11 &&& 31)), .int 4]) (rest := []) ⟨hx, hb, hml, hown, (dr_words hts s.drawn)⟩ (m_L_low l G q H.size (v >>> (11 &&& 31)) 4 (by decide)) (va_cwS 2 (dr_words hts s.drawn) gL_act_L_low rfl rfl rfl (by decide +kernel) ⟨Nat.le_of_ble_eq_true rfl, Nat.le_of_ble_eq_true rfl⟩) ⟨preW_blind, preW_start (s := s.setDrawn s.drawn) hPc hK hDc (hNF.drawn s.drawn)⟩ rfl rfl hl.1 rfl (lv_room (Nat.le_of_ble_eq_true rfl)) dL_act_121 ⟨(by show _ ≤ 11; omega), (by show _ ≤ 73; omega)⟩) hS (fun q _ h => hFc q h) hFc (fun rl u9 t9 H1 locs ht9 hv9 hw hB9 hz9 hk9 hS => ?_)
    obtain ⟨⟩ := u9
    obtain ⟨hP1, hD1⟩ := hB9
    rw [ht9] at hP1
    obtain ⟨hP, hD⟩ := va_joinQ (wr := [((ad 0), .inr (3, [.ref (ad 1), .ref (ad 2), .int (nI (uN u))])), ((ad 2), aF q 6 (fun j => if j < uN u then some (uO u j) else none)), ((ad 1), .inr (1, [.ref (ad 3), .ref (ad 4), .ref (ad 5), .ref (ad 6), .ref (ad 7), .double (uM u), .int (nI (uT u))])), ((ad 3), aI q 8 (uP u)), ((ad 4), aD q 8 (fun i => FP.i2d (uX u i))), ((ad 5), aD q 16 (fun i => FP.i2d (uA u i))), ((ad 6), aD q 16 (fun i => FP.i2d (uB u i))), ((ad 7), aD q 16 (uF u))]) (w1 := []) hP hD [] [0, 1, 2, 3, 4, 5, 6, 7] rfl rfl (by decide) (by decide) hk9 hFc hP1 hD1
    generalize H1 = H at hP hS ⊢
    have hP : va_P G vwCl ([((ad 0), .inr (3, [.ref (ad 1), .ref (ad 2), .int (nI (uN u))])), ((ad 2), aF q 6 (fun j => if j < uN u then some (uO u j) else none)), ((ad 1), .inr (1, [.ref (ad 3), .ref (ad 4), .ref (ad 5), .ref (ad 6), .ref (ad 7), .double (uM u), .int (nI (uT u))])), ((ad 3), aI q 8 (uP u)), ((ad 4), aD q 8 (fun i => FP.i2d (uX u i))), ((ad 5), aD q 16 (fun i => FP.i2d (uA u i))), ((ad 6), aD q 16 (fun i => FP.i2d (uB u i))), ((ad 7), aD q 16 (uF u))] ++ TW (uN u) (WQ q (uC u))) H := hP
    have hD : va_D A ([((ad 0), .inr (3, [.ref (ad 1), .ref (ad 2), .int (nI (uN u))])), ((ad 2), aF q 6 (fun j => if j < uN u then some (uO u j) else none)), ((ad 1), .inr (1, [.ref (ad 3), .ref (ad 4), .ref (ad 5), .ref (ad 6), .ref (ad 7), .double (uM u), .int (nI (uT u))])), ((ad 3), aI q 8 (uP u)), ((ad 4), aD q 8 (fun i => FP.i2d (uX u i))), ((ad 5), aD q 16 (fun i => FP.i2d (uA u i))), ((ad 6), aD q 16 (fun i => FP.i2d (uB u i))), ((ad 7), aD q 16 (uF u))] ++ TW (uN u) (WQ q (uC u))) := hD
    try dsimp only at hw
    subst hw
    refine lv_istore (lv' := [(6, .int (lowV (v >>> (11 &&& 31)) 4)), (5, .int ((lowV (v >>> (9 &&& 31)) 900) - 450)), (4, .int (lowV (v >>> (8 &&& 31)) 4)), (3, .int (lowV (v >>> (5 &&& 31)) 3)), (2, .int 0), (0, .ref (ad 0)), (1, .int v)]) hx hb dL_act_124 hl (by decide) rfl (fun ls hl => ?_)
    refine lv_iload_n hx hb dL_act_126 rfl (lv_at hl 6 rfl) ?_
    refine lv_bipush (v := 26) hx hb dL_act_127 (by decide) ?_
    have hPc := hP.sub (ws' := []) [] rfl
    have hDc := hD.sub (ws' := []) [] (by decide) rfl
    have hFc := va_free (wc := []) hD hS hA [] rfl
    refine va_calli (va_runS (As := [.int v, .int 26]) (rest := []) ⟨hx, hb, hml, hown, (dr_words hts s.drawn)⟩ (m_L_low l G q H.size v 26 (by decide)) (va_cwS 2 (dr_words hts s.drawn) gL_act_L_low rfl rfl rfl (by decide +kernel) ⟨Nat.le_of_ble_eq_true rfl, Nat.le_of_ble_eq_true rfl⟩) ⟨preW_blind, preW_start (s := s.setDrawn s.drawn) hPc hK hDc (hNF.drawn s.drawn)⟩ rfl rfl hl.1 rfl (lv_room (Nat.le_of_ble_eq_true rfl)) dL_act_129 ⟨(by show _ ≤ 11; omega), (by show _ ≤ 73; omega)⟩) hS (fun q _ h => hFc q h) hFc (fun cs u9 t9 H1 locs ht9 hv9 hw hB9 hz9 hk9 hS => ?_)
    obtain ⟨⟩ := u9
    obtain ⟨hP1, hD1⟩ := hB9
    rw [ht9] at hP1
    obtain ⟨hP, hD⟩ := va_joinQ (wr := [((ad 0), .inr (3, [.ref (ad 1), .ref (ad 2), .int (nI (uN u))])), ((ad 2), aF q 6 (fun j => if j < uN u then some (uO u j) else none)), ((ad 1), .inr (1, [.ref (ad 3), .ref (ad 4), .ref (ad 5), .ref (ad 6), .ref (ad 7), .double (uM u), .int (nI (uT u))])), ((ad 3), aI q 8 (uP u)), ((ad 4), aD q 8 (fun i => FP.i2d (uX u i))), ((ad 5), aD q 16 (fun i => FP.i2d (uA u i))), ((ad 6), aD q 16 (fun i => FP.i2d (uB u i))), ((ad 7), aD q 16 (uF u))]) (w1 := []) hP hD [] [0, 1, 2, 3, 4, 5, 6, 7] rfl rfl (by decide) (by decide) hk9 hFc hP1 hD1
    generalize H1 = H at hP hS ⊢
    have hP : va_P G vwCl ([((ad 0), .inr (3, [.ref (ad 1), .ref (ad 2), .int (nI (uN u))])), ((ad 2), aF q 6 (fun j => if j < uN u then some (uO u j) else none)), ((ad 1), .inr (1, [.ref (ad 3), .ref (ad 4), .ref (ad 5), .ref (ad 6), .ref (ad 7), .double (uM u), .int (nI (uT u))])), ((ad 3), aI q 8 (uP u)), ((ad 4), aD q 8 (fun i => FP.i2d (uX u i))), ((ad 5), aD q 16 (fun i => FP.i2d (uA u i))), ((ad 6), aD q 16 (fun i => FP.i2d (uB u i))), ((ad 7), aD q 16 (uF u))] ++ TW (uN u) (WQ q (uC u))) H := hP
    have hD : va_D A ([((ad 0), .inr (3, [.ref (ad 1), .ref (ad 2), .int (nI (uN u))])), ((ad 2), aF q 6 (fun j => if j < uN u then some (uO u j) else none)), ((ad 1), .inr (1, [.ref (ad 3), .ref (ad 4), .ref (ad 5), .ref (ad 6), .ref (ad 7), .double (uM u), .int (nI (uT u))])), ((ad 3), aI q 8 (uP u)), ((ad 4), aD q 8 (fun i => FP.i2d (uX u i))), ((ad 5), aD q 16 (fun i => FP.i2d (uA u i))), ((ad 6), aD q 16 (fun i => FP.i2d (uB u i))), ((ad 7), aD q 16 (uF u))] ++ TW (uN u) (WQ q (uC u))) := hD
    have hcs : cs = lowV v 26 := hw
    by_cases hout : cs.toInt < 0 ∨ 24 < cs.toInt
    · skip
      refine lv_tableOut (tgt := 610) hx hb dL_act_132 hout (by decide) ?_
      refine lv_aload_n hx hb dL_act_610 rfl (lv_at hl 5 rfl) ?_
      refine lv_iload_n hx hb dL_act_611 rfl (lv_at hl 3 rfl) ?_
      refine lv_iload_n hx hb dL_act_612 rfl (lv_at hl 4 rfl) ?_
      refine lv_if_eq (tgt := 621) hx hb dL_act_613 (by decide) (fun _ => ?_) (fun h => absurd (by decide) h)
      refine lv_iload_n hx hb dL_act_621 rfl (lv_at hl 6 rfl) ?_
      refine lv_bipush (v := 9) hx hb dL_act_622 (by decide) ?_
      refine lv_ishr hx hb dL_act_624 ?_
      refine lv_iconst (v := 4) hx hb dL_act_625 (by decide) ?_
      have hPc := hP.sub (ws' := []) [] rfl
      have hDc := hD.sub (ws' := []) [] (by decide) rfl
      have hFc := va_free (wc := []) hD hS hA [] rfl
      refine va_calli (va_runS (As := [.int (v >>> (9 &&& 31)), .int 4]) (rest := [.int (lowV (v >>> (5 &&& 31)) 3), .ref (ad 0)]) ⟨hx, hb, hml, hown, (dr_words hts s.drawn)⟩ (m_L_low l G q H.size (v >>> (9 &&& 31)) 4 (by decide)) (va_cwS 2 (dr_words hts s.drawn) gL_act_L_low rfl rfl rfl (by decide +kernel) ⟨Nat.le_of_ble_eq_true rfl, Nat.le_of_ble_eq_true rfl⟩) ⟨preW_blind, preW_start (s := s.setDrawn s.drawn) hPc hK hDc (hNF.drawn s.drawn)⟩ rfl rfl hl.1 rfl (lv_room (Nat.le_of_ble_eq_true rfl)) dL_act_626 ⟨(by show _ ≤ 11; omega), (by show _ ≤ 73; omega)⟩) hS (fun q _ h => hFc q h) hFc (fun rl u9 t9 H1 locs ht9 hv9 hw hB9 hz9 hk9 hS => ?_)
      obtain ⟨⟩ := u9
      obtain ⟨hP1, hD1⟩ := hB9
      rw [ht9] at hP1
      obtain ⟨hP, hD⟩ := va_joinQ (wr := [((ad 0), .inr (3, [.ref (ad 1), .ref (ad 2), .int (nI (uN u))])), ((ad 2), aF q 6 (fun j => if j < uN u then some (uO u j) else none)), ((ad 1), .inr (1, [.ref (ad 3), .ref (ad 4), .ref (ad 5), .ref (ad 6), .ref (ad 7), .double (uM u), .int (nI (uT u))])), ((ad 3), aI q 8 (uP u)), ((ad 4), aD q 8 (fun i => FP.i2d (uX u i))), ((ad 5), aD q 16 (fun i => FP.i2d (uA u i))), ((ad 6), aD q 16 (fun i => FP.i2d (uB u i))), ((ad 7), aD q 16 (uF u))]) (w1 := []) hP hD [] [0, 1, 2, 3, 4, 5, 6, 7] rfl rfl (by decide) (by decide) hk9 hFc hP1 hD1
      generalize H1 = H at hP hS ⊢
      have hP : va_P G vwCl ([((ad 0), .inr (3, [.ref (ad 1), .ref (ad 2), .int (nI (uN u))])), ((ad 2), aF q 6 (fun j => if j < uN u then some (uO u j) else none)), ((ad 1), .inr (1, [.ref (ad 3), .ref (ad 4), .ref (ad 5), .ref (ad 6), .ref (ad 7), .double (uM u), .int (nI (uT u))])), ((ad 3), aI q 8 (uP u)), ((ad 4), aD q 8 (fun i => FP.i2d (uX u i))), ((ad 5), aD q 16 (fun i => FP.i2d (uA u i))), ((ad 6), aD q 16 (fun i => FP.i2d (uB u i))), ((ad 7), aD q 16 (uF u))] ++ TW (uN u) (WQ q (uC u))) H := hP
      have hD : va_D A ([((ad 0), .inr (3, [.ref (ad 1), .ref (ad 2), .int (nI (uN u))])), ((ad 2), aF q 6 (fun j => if j < uN u then some (uO u j) else none)), ((ad 1), .inr (1, [.ref (ad 3), .ref (ad 4), .ref (ad 5), .ref (ad 6), .ref (ad 7), .double (uM u), .int (nI (uT u))])), ((ad 3), aI q 8 (uP u)), ((ad 4), aD q 8 (fun i => FP.i2d (uX u i))), ((ad 5), aD q 16 (fun i => FP.i2d (uA u i))), ((ad 6), aD q 16 (fun i => FP.i2d (uB u i))), ((ad 7), aD q 16 (uF u))] ++ TW (uN u) (WQ q (uC u))) := hD
      try dsimp only at hw
      subst hw
      have hPc := hP.part (cx := [((ad 0), .inr (3, [.ref (ad 1), .ref (ad 2), .int (nI (uN u))])), ((ad 2), aF q 6 (fun j => if j < uN u then some (uO u j) else none)), ((ad 1), .inr (1, [.ref (ad 3), .ref (ad 4), .ref (ad 5), .ref (ad 6), .ref (ad 7), .double (uM u), .int (nI (uT u))])), ((ad 3), aI q 8 (uP u)), ((ad 4), aD q 8 (fun i => FP.i2d (uX u i))), ((ad 5), aD q 16 (fun i => FP.i2d (uA u i))), ((ad 6), aD q 16 (fun i => FP.i2d (uB u i))), ((ad 7), aD q 16 (uF u))]) [0, 1, 2, 3, 4, 5, 6, 7] rfl
      have hDc := hD.part (cx := [((ad 0), .inr (3, [.ref (ad 1), .ref (ad 2), .int (nI (uN u))])), ((ad 2), aF q 6 (fun j => if j < uN u then some (uO u j) else none)), ((ad 1), .inr (1, [.ref (ad 3), .ref (ad 4), .ref (ad 5), .ref (ad 6), .ref (ad 7), .double (uM u), .int (nI (uT u))])), ((ad 3), aI q 8 (uP u)), ((ad 4), aD q 8 (fun i => FP.i2d (uX u i))), ((ad 5), aD q 16 (fun i => FP.i2d (uA u i))), ((ad 6), aD q 16 (fun i => FP.i2d (uB u i))), ((ad 7), aD q 16 (uF u))]) [0, 1, 2, 3, 4, 5, 6, 7] (by decide) rfl
      have hFc := va_freeP (cx := [((ad 0), .inr (3, [.ref (ad 1), .ref (ad 2), .int (nI (uN u))])), ((ad 2), aF q 6 (fun j => if j < uN u then some (uO u j) else none)), ((ad 1), .inr (1, [.ref (ad 3), .ref (ad 4), .ref (ad 5), .ref (ad 6), .ref (ad 7), .double (uM u), .int (nI (uT u))])), ((ad 3), aI q 8 (uP u)), ((ad 4), aD q 8 (fun i => FP.i2d (uX u i))), ((ad 5), aD q 16 (fun i => FP.i2d (uA u i))), ((ad 6), aD q 16 (fun i => FP.i2d (uB u i))), ((ad 7), aD q 16 (uF u))]) hD hS hA [0, 1, 2, 3, 4, 5, 6, 7] rfl
      refine va_calllD hd0 (swd_run (As := [.ref (ad 0), .int (lowV (v >>> (5 &&& 31)) 3), .int (lowV (v >>> (9 &&& 31)) 4)]) (rest := []) ⟨hx, hb, hml, hown, (dr_words hts s.drawn)⟩ (h_count hst (lowV (v >>> (5 &&& 31)) 3) (lowV (v >>> (9 &&& 31)) 4) G q H.size ad V u hu) (vx_cwSW 3 (dr_words hts s.drawn) gL_act_L_count rfl rfl rfl (by decide +kernel) ⟨Nat.le_of_ble_eq_true rfl, Nat.le_of_ble_eq_true rfl⟩) ⟨preY_blind, preY_start (s := s.setDrawn s.drawn) hPc hK hDc (hNF.drawn s.drawn) (hNT.drawn s.drawn) (hNC.drawn s.drawn) hS (fun q h => hFc q h)⟩ rfl rfl hl.1 rfl (lv_room (Nat.le_of_ble_eq_true rfl)) dL_act_629 ⟨(by show _ ≤ 11; omega), (by show _ ≤ 73; omega)⟩) hS (fun q _ h => hFc q h) hFc (fun r1 u9 t9 H1 locs ht9 hv99 hw hB9 hz9 hk9 hS du82 hu82 => ?_)
      obtain ⟨u1, rfl⟩ : ∃ z, z = u9 := ⟨_, rfl⟩
      obtain ⟨hP1, hD1⟩ := hB9
      rw [ht9] at hP1
      obtain ⟨hP, hD⟩ := va_joinP (wr := []) (rx := [((ad 0), .inr (3, [.ref (ad 1), .ref (ad 2), .int (nI (uN u1))])), ((ad 2), aF q 6 (fun j => if j < uN u1 then some (uO u1 j) else none)), ((ad 1), .inr (1, [.ref (ad 3), .ref (ad 4), .ref (ad 5), .ref (ad 6), .ref (ad 7), .double (uM u1), .int (nI (uT u1))])), ((ad 3), aI q 8 (uP u1)), ((ad 4), aD q 8 (fun i => FP.i2d (uX u1 i))), ((ad 5), aD q 16 (fun i => FP.i2d (uA u1 i))), ((ad 6), aD q 16 (fun i => FP.i2d (uB u1 i))), ((ad 7), aD q 16 (uF u1))]) (pl1 := TW (uN u1) (WQ q (uC u1))) hP hD [0, 1, 2, 3, 4, 5, 6, 7] [] rfl rfl (by decide) (by decide) hk9 hFc hP1 hD1
      generalize H1 = H at hP hS ⊢
      have hP : va_P G vwCl ([((ad 0), .inr (3, [.ref (ad 1), .ref (ad 2), .int (nI (uN u1))])), ((ad 2), aF q 6 (fun j => if j < uN u1 then some (uO u1 j) else none)), ((ad 1), .inr (1, [.ref (ad 3), .ref (ad 4), .ref (ad 5), .ref (ad 6), .ref (ad 7), .double (uM u1), .int (nI (uT u1))])), ((ad 3), aI q 8 (uP u1)), ((ad 4), aD q 8 (fun i => FP.i2d (uX u1 i))), ((ad 5), aD q 16 (fun i => FP.i2d (uA u1 i))), ((ad 6), aD q 16 (fun i => FP.i2d (uB u1 i))), ((ad 7), aD q 16 (uF u1))] ++ TW (uN u1) (WQ q (uC u1))) H := hP
      have hD : va_D A ([((ad 0), .inr (3, [.ref (ad 1), .ref (ad 2), .int (nI (uN u1))])), ((ad 2), aF q 6 (fun j => if j < uN u1 then some (uO u1 j) else none)), ((ad 1), .inr (1, [.ref (ad 3), .ref (ad 4), .ref (ad 5), .ref (ad 6), .ref (ad 7), .double (uM u1), .int (nI (uT u1))])), ((ad 3), aI q 8 (uP u1)), ((ad 4), aD q 8 (fun i => FP.i2d (uX u1 i))), ((ad 5), aD q 16 (fun i => FP.i2d (uA u1 i))), ((ad 6), aD q 16 (fun i => FP.i2d (uB u1 i))), ((ad 7), aD q 16 (uF u1))] ++ TW (uN u1) (WQ q (uC u1))) := hD
      have hA : vAct v V = vCount (lowV (v >>> (5 &&& 31)) 3) (lowV (v >>> (9 &&& 31)) 4) V := by unfold vAct; rw [if_neg hcnd1]; unfold actE; rw [← hcs]; rw [selV_out hout]
      rw [← hA] at hw
      refine W.widen (k := 11) (n := 73) (Nat.le_of_ble_eq_true rfl) (Nat.le_of_ble_eq_true rfl) ?_
      have hP9 := hP
      have hD9 := hD
      refine W.endD hu82 ?_
      exact W.lret (v := r1) hx hb hr (fun t ht hW => ⟨⟨r1, u1, rfl, hw, by rw [ht]; exact hP9, hD9⟩, hS.F ht⟩) hS.2.2 dL_act_632
    rcases in_24 hout with rfl | rfl | rfl | rfl | rfl | rfl | rfl | rfl | rfl | rfl | rfl | rfl | rfl | rfl | rfl | rfl | rfl | rfl | rfl | rfl | rfl | rfl | rfl | rfl | rfl
    · skip
      refine lv_tableIn (off := 116) (tgt := 248) hx hb dL_act_132 (by decide) (by decide) (by decide) (by decide) ?_
      refine lv_aload_n hx hb dL_act_248 rfl (lv_at hl 5 rfl) ?_
      refine lv_iload hx hb dL_act_249 (lv_at hl 2 rfl) ?_
      refine lv_iload hx hb dL_act_251 (lv_at hl 1 rfl) ?_
      have hPc := hP.part (cx := [((ad 0), .inr (3, [.ref (ad 1), .ref (ad 2), .int (nI (uN u))])), ((ad 2), aF q 6 (fun j => if j < uN u then some (uO u j) else none)), ((ad 1), .inr (1, [.ref (ad 3), .ref (ad 4), .ref (ad 5), .ref (ad 6), .ref (ad 7), .double (uM u), .int (nI (uT u))])), ((ad 3), aI q 8 (uP u)), ((ad 4), aD q 8 (fun i => FP.i2d (uX u i))), ((ad 5), aD q 16 (fun i => FP.i2d (uA u i))), ((ad 6), aD q 16 (fun i => FP.i2d (uB u i))), ((ad 7), aD q 16 (uF u))]) [0, 1, 2, 3, 4, 5, 6, 7] rfl
      have hDc := hD.part (cx := [((ad 0), .inr (3, [.ref (ad 1), .ref (ad 2), .int (nI (uN u))])), ((ad 2), aF q 6 (fun j => if j < uN u then some (uO u j) else none)), ((ad 1), .inr (1, [.ref (ad 3), .ref (ad 4), .ref (ad 5), .ref (ad 6), .ref (ad 7), .double (uM u), .int (nI (uT u))])), ((ad 3), aI q 8 (uP u)), ((ad 4), aD q 8 (fun i => FP.i2d (uX u i))), ((ad 5), aD q 16 (fun i => FP.i2d (uA u i))), ((ad 6), aD q 16 (fun i => FP.i2d (uB u i))), ((ad 7), aD q 16 (uF u))]) [0, 1, 2, 3, 4, 5, 6, 7] (by decide) rfl
      have hFc := va_freeP (cx := [((ad 0), .inr (3, [.ref (ad 1), .ref (ad 2), .int (nI (uN u))])), ((ad 2), aF q 6 (fun j => if j < uN u then some (uO u j) else none)), ((ad 1), .inr (1, [.ref (ad 3), .ref (ad 4), .ref (ad 5), .ref (ad 6), .ref (ad 7), .double (uM u), .int (nI (uT u))])), ((ad 3), aI q 8 (uP u)), ((ad 4), aD q 8 (fun i => FP.i2d (uX u i))), ((ad 5), aD q 16 (fun i => FP.i2d (uA u i))), ((ad 6), aD q 16 (fun i => FP.i2d (uB u i))), ((ad 7), aD q 16 (uF u))]) hD hS hA [0, 1, 2, 3, 4, 5, 6, 7] rfl
      refine va_calllD hd0 (swd_run (As := [.ref (ad 0), .int (lowV (v >>> (8 &&& 31)) 4), .int ((lowV (v >>> (9 &&& 31)) 900) - 450)]) (rest := []) ⟨hx, hb, hml, hown, (dr_words hts s.drawn)⟩ (h_path hst (lowV (v >>> (8 &&& 31)) 4) ((lowV (v >>> (9 &&& 31)) 900) - 450) G q H.size ad V u hu) (vx_cwSW 3 (dr_words hts s.drawn) gL_act_L_path rfl rfl rfl (by decide +kernel) ⟨Nat.le_of_ble_eq_true rfl, Nat.le_of_ble_eq_true rfl⟩) ⟨preY_blind, preY_start (s := s.setDrawn s.drawn) hPc hK hDc (hNF.drawn s.drawn) (hNT.drawn s.drawn) (hNC.drawn s.drawn) hS (fun q h => hFc q h)⟩ rfl rfl hl.1 rfl (lv_room (Nat.le_of_ble_eq_true rfl)) dL_act_253 ⟨(by show _ ≤ 11; omega), (by show _ ≤ 73; omega)⟩) hS (fun q _ h => hFc q h) hFc (fun r1 u9 t9 H1 locs ht9 hv99 hw hB9 hz9 hk9 hS du83 hu83 => ?_)
      obtain ⟨u1, rfl⟩ : ∃ z, z = u9 := ⟨_, rfl⟩
      obtain ⟨hP1, hD1⟩ := hB9
      rw [ht9] at hP1
      obtain ⟨hP, hD⟩ := va_joinP (wr := []) (rx := [((ad 0), .inr (3, [.ref (ad 1), .ref (ad 2), .int (nI (uN u1))])), ((ad 2), aF q 6 (fun j => if j < uN u1 then some (uO u1 j) else none)), ((ad 1), .inr (1, [.ref (ad 3), .ref (ad 4), .ref (ad 5), .ref (ad 6), .ref (ad 7), .double (uM u1), .int (nI (uT u1))])), ((ad 3), aI q 8 (uP u1)), ((ad 4), aD q 8 (fun i => FP.i2d (uX u1 i))), ((ad 5), aD q 16 (fun i => FP.i2d (uA u1 i))), ((ad 6), aD q 16 (fun i => FP.i2d (uB u1 i))), ((ad 7), aD q 16 (uF u1))]) (pl1 := TW (uN u1) (WQ q (uC u1))) hP hD [0, 1, 2, 3, 4, 5, 6, 7] [] rfl rfl (by decide) (by decide) hk9 hFc hP1 hD1
      generalize H1 = H at hP hS ⊢
      have hP : va_P G vwCl ([((ad 0), .inr (3, [.ref (ad 1), .ref (ad 2), .int (nI (uN u1))])), ((ad 2), aF q 6 (fun j => if j < uN u1 then some (uO u1 j) else none)), ((ad 1), .inr (1, [.ref (ad 3), .ref (ad 4), .ref (ad 5), .ref (ad 6), .ref (ad 7), .double (uM u1), .int (nI (uT u1))])), ((ad 3), aI q 8 (uP u1)), ((ad 4), aD q 8 (fun i => FP.i2d (uX u1 i))), ((ad 5), aD q 16 (fun i => FP.i2d (uA u1 i))), ((ad 6), aD q 16 (fun i => FP.i2d (uB u1 i))), ((ad 7), aD q 16 (uF u1))] ++ TW (uN u1) (WQ q (uC u1))) H := hP
      have hD : va_D A ([((ad 0), .inr (3, [.ref (ad 1), .ref (ad 2), .int (nI (uN u1))])), ((ad 2), aF q 6 (fun j => if j < uN u1 then some (uO u1 j) else none)), ((ad 1), .inr (1, [.ref (ad 3), .ref (ad 4), .ref (ad 5), .ref (ad 6), .ref (ad 7), .double (uM u1), .int (nI (uT u1))])), ((ad 3), aI q 8 (uP u1)), ((ad 4), aD q 8 (fun i => FP.i2d (uX u1 i))), ((ad 5), aD q 16 (fun i => FP.i2d (uA u1 i))), ((ad 6), aD q 16 (fun i => FP.i2d (uB u1 i))), ((ad 7), aD q 16 (uF u1))] ++ TW (uN u1) (WQ q (uC u1))) := hD
      have hA : vAct v V = vPath (lowV (v >>> (8 &&& 31)) 4) ((lowV (v >>> (9 &&& 31)) 900) - 450) V := by unfold vAct; rw [if_neg hcnd1]; unfold actE; rw [← hcs]; rw [selV_0]
      rw [← hA] at hw
      refine W.widen (k := 11) (n := 73) (Nat.le_of_ble_eq_true rfl) (Nat.le_of_ble_eq_true rfl) ?_
      have hP9 := hP
      have hD9 := hD
      refine W.endD hu83 ?_
      exact W.lret (v := r1) hx hb hr (fun t ht hW => ⟨⟨r1, u1, rfl, hw, by rw [ht]; exact hP9, hD9⟩, hS.F ht⟩) hS.2.2 dL_act_256
    · skip
      refine lv_tableIn (off := 116) (tgt := 248) hx hb dL_act_132 (by decide) (by decide) (by decide) (by decide) ?_
      refine lv_aload_n hx hb dL_act_248 rfl (lv_at hl 5 rfl) ?_
      refine lv_iload hx hb dL_act_249 (lv_at hl 2 rfl) ?_
      refine lv_iload hx hb dL_act_251 (lv_at hl 1 rfl) ?_
      have hPc := hP.part (cx := [((ad 0), .inr (3, [.ref (ad 1), .ref (ad 2), .int (nI (uN u))])), ((ad 2), aF q 6 (fun j => if j < uN u then some (uO u j) else none)), ((ad 1), .inr (1, [.ref (ad 3), .ref (ad 4), .ref (ad 5), .ref (ad 6), .ref (ad 7), .double (uM u), .int (nI (uT u))])), ((ad 3), aI q 8 (uP u)), ((ad 4), aD q 8 (fun i => FP.i2d (uX u i))), ((ad 5), aD q 16 (fun i => FP.i2d (uA u i))), ((ad 6), aD q 16 (fun i => FP.i2d (uB u i))), ((ad 7), aD q 16 (uF u))]) [0, 1, 2, 3, 4, 5, 6, 7] rfl
      have hDc := hD.part (cx := [((ad 0), .inr (3, [.ref (ad 1), .ref (ad 2), .int (nI (uN u))])), ((ad 2), aF q 6 (fun j => if j < uN u then some (uO u j) else none)), ((ad 1), .inr (1, [.ref (ad 3), .ref (ad 4), .ref (ad 5), .ref (ad 6), .ref (ad 7), .double (uM u), .int (nI (uT u))])), ((ad 3), aI q 8 (uP u)), ((ad 4), aD q 8 (fun i => FP.i2d (uX u i))), ((ad 5), aD q 16 (fun i => FP.i2d (uA u i))), ((ad 6), aD q 16 (fun i => FP.i2d (uB u i))), ((ad 7), aD q 16 (uF u))]) [0, 1, 2, 3, 4, 5, 6, 7] (by decide) rfl
      have hFc := va_freeP (cx := [((ad 0), .inr (3, [.ref (ad 1), .ref (ad 2), .int (nI (uN u))])), ((ad 2), aF q 6 (fun j => if j < uN u then some (uO u j) else none)), ((ad 1), .inr (1, [.ref (ad 3), .ref (ad 4), .ref (ad 5), .ref (ad 6), .ref (ad 7), .double (uM u), .int (nI (uT u))])), ((ad 3), aI q 8 (uP u)), ((ad 4), aD q 8 (fun i => FP.i2d (uX u i))), ((ad 5), aD q 16 (fun i => FP.i2d (uA u i))), ((ad 6), aD q 16 (fun i => FP.i2d (uB u i))), ((ad 7), aD q 16 (uF u))]) hD hS hA [0, 1, 2, 3, 4, 5, 6, 7] rfl
      refine va_calllD hd0 (swd_run (As := [.ref (ad 0), .int (lowV (v >>> (8 &&& 31)) 4), .int ((lowV (v >>> (9 &&& 31)) 900) - 450)]) (rest := []) ⟨hx, hb, hml, hown, (dr_words hts s.drawn)⟩ (h_path hst (lowV (v >>> (8 &&& 31)) 4) ((lowV (v >>> (9 &&& 31)) 900) - 450) G q H.size ad V u hu) (vx_cwSW 3 (dr_words hts s.drawn) gL_act_L_path rfl rfl rfl (by decide +kernel) ⟨Nat.le_of_ble_eq_true rfl, Nat.le_of_ble_eq_true rfl⟩) ⟨preY_blind, preY_start (s := s.setDrawn s.drawn) hPc hK hDc (hNF.drawn s.drawn) (hNT.drawn s.drawn) (hNC.drawn s.drawn) hS (fun q h => hFc q h)⟩ rfl rfl hl.1 rfl (lv_room (Nat.le_of_ble_eq_true rfl)) dL_act_253 ⟨(by show _ ≤ 11; omega), (by show _ ≤ 73; omega)⟩) hS (fun q _ h => hFc q h) hFc (fun r1 u9 t9 H1 locs ht9 hv99 hw hB9 hz9 hk9 hS du84 hu84 => ?_)
      obtain ⟨u1, rfl⟩ : ∃ z, z = u9 := ⟨_, rfl⟩
      obtain ⟨hP1, hD1⟩ := hB9
      rw [ht9] at hP1
      obtain ⟨hP, hD⟩ := va_joinP (wr := []) (rx := [((ad 0), .inr (3, [.ref (ad 1), .ref (ad 2), .int (nI (uN u1))])), ((ad 2), aF q 6 (fun j => if j < uN u1 then some (uO u1 j) else none)), ((ad 1), .inr (1, [.ref (ad 3), .ref (ad 4), .ref (ad 5), .ref (ad 6), .ref (ad 7), .double (uM u1), .int (nI (uT u1))])), ((ad 3), aI q 8 (uP u1)), ((ad 4), aD q 8 (fun i => FP.i2d (uX u1 i))), ((ad 5), aD q 16 (fun i => FP.i2d (uA u1 i))), ((ad 6), aD q 16 (fun i => FP.i2d (uB u1 i))), ((ad 7), aD q 16 (uF u1))]) (pl1 := TW (uN u1) (WQ q (uC u1))) hP hD [0, 1, 2, 3, 4, 5, 6, 7] [] rfl rfl (by decide) (by decide) hk9 hFc hP1 hD1
      generalize H1 = H at hP hS ⊢
      have hP : va_P G vwCl ([((ad 0), .inr (3, [.ref (ad 1), .ref (ad 2), .int (nI (uN u1))])), ((ad 2), aF q 6 (fun j => if j < uN u1 then some (uO u1 j) else none)), ((ad 1), .inr (1, [.ref (ad 3), .ref (ad 4), .ref (ad 5), .ref (ad 6), .ref (ad 7), .double (uM u1), .int (nI (uT u1))])), ((ad 3), aI q 8 (uP u1)), ((ad 4), aD q 8 (fun i => FP.i2d (uX u1 i))), ((ad 5), aD q 16 (fun i => FP.i2d (uA u1 i))), ((ad 6), aD q 16 (fun i => FP.i2d (uB u1 i))), ((ad 7), aD q 16 (uF u1))] ++ TW (uN u1) (WQ q (uC u1))) H := hP
      have hD : va_D A ([((ad 0), .inr (3, [.ref (ad 1), .ref (ad 2), .int (nI (uN u1))])), ((ad 2), aF q 6 (fun j => if j < uN u1 then some (uO u1 j) else none)), ((ad 1), .inr (1, [.ref (ad 3), .ref (ad 4), .ref (ad 5), .ref (ad 6), .ref (ad 7), .double (uM u1), .int (nI (uT u1))])), ((ad 3), aI q 8 (uP u1)), ((ad 4), aD q 8 (fun i => FP.i2d (uX u1 i))), ((ad 5), aD q 16 (fun i => FP.i2d (uA u1 i))), ((ad 6), aD q 16 (fun i => FP.i2d (uB u1 i))), ((ad 7), aD q 16 (uF u1))] ++ TW (uN u1) (WQ q (uC u1))) := hD
      have hA : vAct v V = vPath (lowV (v >>> (8 &&& 31)) 4) ((lowV (v >>> (9 &&& 31)) 900) - 450) V := by unfold vAct; rw [if_neg hcnd1]; unfold actE; rw [← hcs]; rw [selV_1]
      rw [← hA] at hw
      refine W.widen (k := 11) (n := 73) (Nat.le_of_ble_eq_true rfl) (Nat.le_of_ble_eq_true rfl) ?_
      have hP9 := hP
      have hD9 := hD
      refine W.endD hu84 ?_
      exact W.lret (v := r1) hx hb hr (fun t ht hW => ⟨⟨r1, u1, rfl, hw, by rw [ht]; exact hP9, hD9⟩, hS.F ht⟩) hS.2.2 dL_act_256
    · skip
      refine lv_tableIn (off := 116) (tgt := 248) hx hb dL_act_132 (by decide) (by decide) (by decide) (by decide) ?_
      refine lv_aload_n hx hb dL_act_248 rfl (lv_at hl 5 rfl) ?_
      refine lv_iload hx hb dL_act_249 (lv_at hl 2 rfl) ?_
      refine lv_iload hx hb dL_act_251 (lv_at hl 1 rfl) ?_
      have hPc := hP.part (cx := [((ad 0), .inr (3, [.ref (ad 1), .ref (ad 2), .int (nI (uN u))])), ((ad 2), aF q 6 (fun j => if j < uN u then some (uO u j) else none)), ((ad 1), .inr (1, [.ref (ad 3), .ref (ad 4), .ref (ad 5), .ref (ad 6), .ref (ad 7), .double (uM u), .int (nI (uT u))])), ((ad 3), aI q 8 (uP u)), ((ad 4), aD q 8 (fun i => FP.i2d (uX u i))), ((ad 5), aD q 16 (fun i => FP.i2d (uA u i))), ((ad 6), aD q 16 (fun i => FP.i2d (uB u i))), ((ad 7), aD q 16 (uF u))]) [0, 1, 2, 3, 4, 5, 6, 7] rfl
      have hDc := hD.part (cx := [((ad 0), .inr (3, [.ref (ad 1), .ref (ad 2), .int (nI (uN u))])), ((ad 2), aF q 6 (fun j => if j < uN u then some (uO u j) else none)), ((ad 1), .inr (1, [.ref (ad 3), .ref (ad 4), .ref (ad 5), .ref (ad 6), .ref (ad 7), .double (uM u), .int (nI (uT u))])), ((ad 3), aI q 8 (uP u)), ((ad 4), aD q 8 (fun i => FP.i2d (uX u i))), ((ad 5), aD q 16 (fun i => FP.i2d (uA u i))), ((ad 6), aD q 16 (fun i => FP.i2d (uB u i))), ((ad 7), aD q 16 (uF u))]) [0, 1, 2, 3, 4, 5, 6, 7] (by decide) rfl
      have hFc := va_freeP (cx := [((ad 0), .inr (3, [.ref (ad 1), .ref (ad 2), .int (nI (uN u))])), ((ad 2), aF q 6 (fun j => if j < uN u then some (uO u j) else none)), ((ad 1), .inr (1, [.ref (ad 3), .ref (ad 4), .ref (ad 5), .ref (ad 6), .ref (ad 7), .double (uM u), .int (nI (uT u))])), ((ad 3), aI q 8 (uP u)), ((ad 4), aD q 8 (fun i => FP.i2d (uX u i))), ((ad 5), aD q 16 (fun i => FP.i2d (uA u i))), ((ad 6), aD q 16 (fun i => FP.i2d (uB u i))), ((ad 7), aD q 16 (uF u))]) hD hS hA [0, 1, 2, 3, 4, 5, 6, 7] rfl
      refine va_calllD hd0 (swd_run (As := [.ref (ad 0), .int (lowV (v >>> (8 &&& 31)) 4), .int ((lowV (v >>> (9 &&& 31)) 900) - 450)]) (rest := []) ⟨hx, hb, hml, hown, (dr_words hts s.drawn)⟩ (h_path hst (lowV (v >>> (8 &&& 31)) 4) ((lowV (v >>> (9 &&& 31)) 900) - 450) G q H.size ad V u hu) (vx_cwSW 3 (dr_words hts s.drawn) gL_act_L_path rfl rfl rfl (by decide +kernel) ⟨Nat.le_of_ble_eq_true rfl, Nat.le_of_ble_eq_true rfl⟩) ⟨preY_blind, preY_start (s := s.setDrawn s.drawn) hPc hK hDc (hNF.drawn s.drawn) (hNT.drawn s.drawn) (hNC.drawn s.drawn) hS (fun q h => hFc q h)⟩ rfl rfl hl.1 rfl (lv_room (Nat.le_of_ble_eq_true rfl)) dL_act_253 ⟨(by show _ ≤ 11; omega), (by show _ ≤ 73; omega)⟩) hS (fun q _ h => hFc q h) hFc (fun r1 u9 t9 H1 locs ht9 hv99 hw hB9 hz9 hk9 hS du85 hu85 => ?_)
      obtain ⟨u1, rfl⟩ : ∃ z, z = u9 := ⟨_, rfl⟩
      obtain ⟨hP1, hD1⟩ := hB9
      rw [ht9] at hP1
      obtain ⟨hP, hD⟩ := va_joinP (wr := []) (rx := [((ad 0), .inr (3, [.ref (ad 1), .ref (ad 2), .int (nI (uN u1))])), ((ad 2), aF q 6 (fun j => if j < uN u1 then some (uO u1 j) else none)), ((ad 1), .inr (1, [.ref (ad 3), .ref (ad 4), .ref (ad 5), .ref (ad 6), .ref (ad 7), .double (uM u1), .int (nI (uT u1))])), ((ad 3), aI q 8 (uP u1)), ((ad 4), aD q 8 (fun i => FP.i2d (uX u1 i))), ((ad 5), aD q 16 (fun i => FP.i2d (uA u1 i))), ((ad 6), aD q 16 (fun i => FP.i2d (uB u1 i))), ((ad 7), aD q 16 (uF u1))]) (pl1 := TW (uN u1) (WQ q (uC u1))) hP hD [0, 1, 2, 3, 4, 5, 6, 7] [] rfl rfl (by decide) (by decide) hk9 hFc hP1 hD1
      generalize H1 = H at hP hS ⊢
      have hP : va_P G vwCl ([((ad 0), .inr (3, [.ref (ad 1), .ref (ad 2), .int (nI (uN u1))])), ((ad 2), aF q 6 (fun j => if j < uN u1 then some (uO u1 j) else none)), ((ad 1), .inr (1, [.ref (ad 3), .ref (ad 4), .ref (ad 5), .ref (ad 6), .ref (ad 7), .double (uM u1), .int (nI (uT u1))])), ((ad 3), aI q 8 (uP u1)), ((ad 4), aD q 8 (fun i => FP.i2d (uX u1 i))), ((ad 5), aD q 16 (fun i => FP.i2d (uA u1 i))), ((ad 6), aD q 16 (fun i => FP.i2d (uB u1 i))), ((ad 7), aD q 16 (uF u1))] ++ TW (uN u1) (WQ q (uC u1))) H := hP
      have hD : va_D A ([((ad 0), .inr (3, [.ref (ad 1), .ref (ad 2), .int (nI (uN u1))])), ((ad 2), aF q 6 (fun j => if j < uN u1 then some (uO u1 j) else none)), ((ad 1), .inr (1, [.ref (ad 3), .ref (ad 4), .ref (ad 5), .ref (ad 6), .ref (ad 7), .double (uM u1), .int (nI (uT u1))])), ((ad 3), aI q 8 (uP u1)), ((ad 4), aD q 8 (fun i => FP.i2d (uX u1 i))), ((ad 5), aD q 16 (fun i => FP.i2d (uA u1 i))), ((ad 6), aD q 16 (fun i => FP.i2d (uB u1 i))), ((ad 7), aD q 16 (uF u1))] ++ TW (uN u1) (WQ q (uC u1))) := hD
      have hA : vAct v V = vPath (lowV (v >>> (8 &&& 31)) 4) ((lowV (v >>> (9 &&& 31)) 900) - 450) V := by unfold vAct; rw [if_neg hcnd1]; unfold actE; rw [← hcs]; rw [selV_2]
      rw [← hA] at hw
      refine W.widen (k := 11) (n := 73) (Nat.le_of_ble_eq_true rfl) (Nat.le_of_ble_eq_true rfl) ?_
      have hP9 := hP
      have hD9 := hD
      refine W.endD hu85 ?_
      exact W.lret (v := r1) hx hb hr (fun t ht hW => ⟨⟨r1, u1, rfl, hw, by rw [ht]; exact hP9, hD9⟩, hS.F ht⟩) hS.2.2 dL_act_256
    · skip
      refine lv_tableIn (off := 125) (tgt := 257) hx hb dL_act_132 (by decide) (by decide) (by decide) (by decide) ?_
      refine lv_aload_n hx hb dL_act_257 rfl (lv_at hl 5 rfl) ?_
      refine lv_iload hx hb dL_act_258 (lv_at hl 0 rfl) ?_
      refine lv_iload_n hx hb dL_act_260 rfl (lv_at hl 4 rfl) ?_
      refine lv_if_eq (tgt := 269) hx hb dL_act_261 (by decide) (fun _ => ?_) (fun h => absurd (by decide) h)
      refine lv_iconst (v := 1) hx hb dL_act_269 (by decide) ?_
      refine lv_iload hx hb dL_act_270 (lv_at hl 2 rfl) ?_
      refine lv_iadd hx hb dL_act_272 ?_
      refine lv_topi (fun x87 ex87 => ?_)
      obtain rfl : x87 = ((1 : Int32) + (lowV (v >>> (8 &&& 31)) 4)) := ex87
      refine lv_iload_n hx hb dL_act_273 rfl (lv_at hl 4 rfl) ?_
      refine lv_if_eq (tgt := 282) hx hb dL_act_274 (by decide) (fun _ => ?_) (fun h => absurd (by decide) h)
      refine lv_iload hx hb dL_act_282 (lv_at hl 0 rfl) ?_
      refine lv_iconst (v := 3) hx hb dL_act_284 (by decide) ?_
      by_cases hcnd3 : (lowV (v >>> (11 &&& 31)) 4) = 3
      · skip
        refine lv_icmp_ne (tgt := 305) hx hb dL_act_285 (by decide) (fun h => absurd hcnd3 h) (fun _ => ?_)
        refine lv_sipush (v := 500) hx hb dL_act_288 (by decide) ?_
        refine lv_iload_n hx hb dL_act_291 rfl (lv_at hl 6 rfl) ?_
        refine lv_bipush (v := 9) hx hb dL_act_292 (by decide) ?_
        refine lv_ishr hx hb dL_act_294 ?_
        refine lv_sipush (v := 501) hx hb dL_act_295 (by decide) ?_
        have hPc := hP.sub (ws' := []) [] rfl
        have hDc := hD.sub (ws' := []) [] (by decide) rfl
        have hFc := va_free (wc := []) hD hS hA [] rfl
        refine va_calli (va_runS (As := [.int (v >>> (9 &&& 31)), .int 501]) (rest := [.int 500, .int ((1 : Int32) + (lowV (v >>> (8 &&& 31)) 4)), .int (lowV (v >>> (11 &&& 31)) 4), .ref (ad 0)]) ⟨hx, hb, hml, hown, (dr_words hts s.drawn)⟩ (m_L_low l G q H.size (v >>> (9 &&& 31)) 501 (by decide)) (va_cwS 2 (dr_words hts s.drawn) gL_act_L_low rfl rfl rfl (by decide +kernel) ⟨Nat.le_of_ble_eq_true rfl, Nat.le_of_ble_eq_true rfl⟩) ⟨preW_blind, preW_start (s := s.setDrawn s.drawn) hPc hK hDc (hNF.drawn s.drawn)⟩ rfl rfl hl.1 rfl (lv_room (Nat.le_of_ble_eq_true rfl)) dL_act_298 ⟨(by show _ ≤ 11; omega), (by show _ ≤ 73; omega)⟩) hS (fun q _ h => hFc q h) hFc (fun rl u9 t9 H1 locs ht9 hv9 hw hB9 hz9 hk9 hS => ?_)
        obtain ⟨⟩ := u9
        obtain ⟨hP1, hD1⟩ := hB9
        rw [ht9] at hP1
        obtain ⟨hP, hD⟩ := va_joinQ (wr := [((ad 0), .inr (3, [.ref (ad 1), .ref (ad 2), .int (nI (uN u))])), ((ad 2), aF q 6 (fun j => if j < uN u then some (uO u j) else none)), ((ad 1), .inr (1, [.ref (ad 3), .ref (ad 4), .ref (ad 5), .ref (ad 6), .ref (ad 7), .double (uM u), .int (nI (uT u))])), ((ad 3), aI q 8 (uP u)), ((ad 4), aD q 8 (fun i => FP.i2d (uX u i))), ((ad 5), aD q 16 (fun i => FP.i2d (uA u i))), ((ad 6), aD q 16 (fun i => FP.i2d (uB u i))), ((ad 7), aD q 16 (uF u))]) (w1 := []) hP hD [] [0, 1, 2, 3, 4, 5, 6, 7] rfl rfl (by decide) (by decide) hk9 hFc hP1 hD1
        generalize H1 = H at hP hS ⊢
        have hP : va_P G vwCl ([((ad 0), .inr (3, [.ref (ad 1), .ref (ad 2), .int (nI (uN u))])), ((ad 2), aF q 6 (fun j => if j < uN u then some (uO u j) else none)), ((ad 1), .inr (1, [.ref (ad 3), .ref (ad 4), .ref (ad 5), .ref (ad 6), .ref (ad 7), .double (uM u), .int (nI (uT u))])), ((ad 3), aI q 8 (uP u)), ((ad 4), aD q 8 (fun i => FP.i2d (uX u i))), ((ad 5), aD q 16 (fun i => FP.i2d (uA u i))), ((ad 6), aD q 16 (fun i => FP.i2d (uB u i))), ((ad 7), aD q 16 (uF u))] ++ TW (uN u) (WQ q (uC u))) H := hP
        have hD : va_D A ([((ad 0), .inr (3, [.ref (ad 1), .ref (ad 2), .int (nI (uN u))])), ((ad 2), aF q 6 (fun j => if j < uN u then some (uO u j) else none)), ((ad 1), .inr (1, [.ref (ad 3), .ref (ad 4), .ref (ad 5), .ref (ad 6), .ref (ad 7), .double (uM u), .int (nI (uT u))])), ((ad 3), aI q 8 (uP u)), ((ad 4), aD q 8 (fun i => FP.i2d (uX u i))), ((ad 5), aD q 16 (fun i => FP.i2d (uA u i))), ((ad 6), aD q 16 (fun i => FP.i2d (uB u i))), ((ad 7), aD q 16 (uF u))] ++ TW (uN u) (WQ q (uC u))) := hD
        try dsimp only at hw
        subst hw
        refine lv_iadd hx hb dL_act_301 ?_
        refine lv_topi (fun x91 ex91 => ?_)
        obtain rfl : x91 = ((500 : Int32) + (lowV (v >>> (9 &&& 31)) 501)) := ex91
        refine lv_goto (tgt := 317) hx hb dL_act_302 (by decide) ?_
        have hPc := hP.part (cx := [((ad 0), .inr (3, [.ref (ad 1), .ref (ad 2), .int (nI (uN u))])), ((ad 2), aF q 6 (fun j => if j < uN u then some (uO u j) else none)), ((ad 1), .inr (1, [.ref (ad 3), .ref (ad 4), .ref (ad 5), .ref (ad 6), .ref (ad 7), .double (uM u), .int (nI (uT u))])), ((ad 3), aI q 8 (uP u)), ((ad 4), aD q 8 (fun i => FP.i2d (uX u i))), ((ad 5), aD q 16 (fun i => FP.i2d (uA u i))), ((ad 6), aD q 16 (fun i => FP.i2d (uB u i))), ((ad 7), aD q 16 (uF u))]) [0, 1, 2, 3, 4, 5, 6, 7] rfl
        have hDc := hD.part (cx := [((ad 0), .inr (3, [.ref (ad 1), .ref (ad 2), .int (nI (uN u))])), ((ad 2), aF q 6 (fun j => if j < uN u then some (uO u j) else none)), ((ad 1), .inr (1, [.ref (ad 3), .ref (ad 4), .ref (ad 5), .ref (ad 6), .ref (ad 7), .double (uM u), .int (nI (uT u))])), ((ad 3), aI q 8 (uP u)), ((ad 4), aD q 8 (fun i => FP.i2d (uX u i))), ((ad 5), aD q 16 (fun i => FP.i2d (uA u i))), ((ad 6), aD q 16 (fun i => FP.i2d (uB u i))), ((ad 7), aD q 16 (uF u))]) [0, 1, 2, 3, 4, 5, 6, 7] (by decide) rfl
        have hFc := va_freeP (cx := [((ad 0), .inr (3, [.ref (ad 1), .ref (ad 2), .int (nI (uN u))])), ((ad 2), aF q 6 (fun j => if j < uN u then some (uO u j) else none)), ((ad 1), .inr (1, [.ref (ad 3), .ref (ad 4), .ref (ad 5), .ref (ad 6), .ref (ad 7), .double (uM u), .int (nI (uT u))])), ((ad 3), aI q 8 (uP u)), ((ad 4), aD q 8 (fun i => FP.i2d (uX u i))), ((ad 5), aD q 16 (fun i => FP.i2d (uA u i))), ((ad 6), aD q 16 (fun i => FP.i2d (uB u i))), ((ad 7), aD q 16 (uF u))]) hD hS hA [0, 1, 2, 3, 4, 5, 6, 7] rfl
        refine va_calllD hd0 (swd_run (As := [.ref (ad 0), .int (lowV (v >>> (11 &&& 31)) 4), .int ((1 : Int32) + (lowV (v >>> (8 &&& 31)) 4)), .int ((500 : Int32) + (lowV (v >>> (9 &&& 31)) 501))]) (rest := []) ⟨hx, hb, hml, hown, (dr_words hts s.drawn)⟩ (h_filter hst (lowV (v >>> (11 &&& 31)) 4) ((1 : Int32) + (lowV (v >>> (8 &&& 31)) 4)) ((500 : Int32) + (lowV (v >>> (9 &&& 31)) 501)) G q H.size ad V u hu) (vx_cwSW 4 (dr_words hts s.drawn) gL_act_L_filter rfl rfl rfl (by decide +kernel) ⟨Nat.le_of_ble_eq_true rfl, Nat.le_of_ble_eq_true rfl⟩) ⟨preY_blind, preY_start (s := s.setDrawn s.drawn) hPc hK hDc (hNF.drawn s.drawn) (hNT.drawn s.drawn) (hNC.drawn s.drawn) hS (fun q h => hFc q h)⟩ rfl rfl hl.1 rfl (lv_room (Nat.le_of_ble_eq_true rfl)) dL_act_317 ⟨(by show _ ≤ 11; omega), (by show _ ≤ 73; omega)⟩) hS (fun q _ h => hFc q h) hFc (fun r1 u9 t9 H1 locs ht9 hv99 hw hB9 hz9 hk9 hS du92 hu92 => ?_)
        obtain ⟨u1, rfl⟩ : ∃ z, z = u9 := ⟨_, rfl⟩
        obtain ⟨hP1, hD1⟩ := hB9
        rw [ht9] at hP1
        obtain ⟨hP, hD⟩ := va_joinP (wr := []) (rx := [((ad 0), .inr (3, [.ref (ad 1), .ref (ad 2), .int (nI (uN u1))])), ((ad 2), aF q 6 (fun j => if j < uN u1 then some (uO u1 j) else none)), ((ad 1), .inr (1, [.ref (ad 3), .ref (ad 4), .ref (ad 5), .ref (ad 6), .ref (ad 7), .double (uM u1), .int (nI (uT u1))])), ((ad 3), aI q 8 (uP u1)), ((ad 4), aD q 8 (fun i => FP.i2d (uX u1 i))), ((ad 5), aD q 16 (fun i => FP.i2d (uA u1 i))), ((ad 6), aD q 16 (fun i => FP.i2d (uB u1 i))), ((ad 7), aD q 16 (uF u1))]) (pl1 := TW (uN u1) (WQ q (uC u1))) hP hD [0, 1, 2, 3, 4, 5, 6, 7] [] rfl rfl (by decide) (by decide) hk9 hFc hP1 hD1
        generalize H1 = H at hP hS ⊢
        have hP : va_P G vwCl ([((ad 0), .inr (3, [.ref (ad 1), .ref (ad 2), .int (nI (uN u1))])), ((ad 2), aF q 6 (fun j => if j < uN u1 then some (uO u1 j) else none)), ((ad 1), .inr (1, [.ref (ad 3), .ref (ad 4), .ref (ad 5), .ref (ad 6), .ref (ad 7), .double (uM u1), .int (nI (uT u1))])), ((ad 3), aI q 8 (uP u1)), ((ad 4), aD q 8 (fun i => FP.i2d (uX u1 i))), ((ad 5), aD q 16 (fun i => FP.i2d (uA u1 i))), ((ad 6), aD q 16 (fun i => FP.i2d (uB u1 i))), ((ad 7), aD q 16 (uF u1))] ++ TW (uN u1) (WQ q (uC u1))) H := hP
        have hD : va_D A ([((ad 0), .inr (3, [.ref (ad 1), .ref (ad 2), .int (nI (uN u1))])), ((ad 2), aF q 6 (fun j => if j < uN u1 then some (uO u1 j) else none)), ((ad 1), .inr (1, [.ref (ad 3), .ref (ad 4), .ref (ad 5), .ref (ad 6), .ref (ad 7), .double (uM u1), .int (nI (uT u1))])), ((ad 3), aI q 8 (uP u1)), ((ad 4), aD q 8 (fun i => FP.i2d (uX u1 i))), ((ad 5), aD q 16 (fun i => FP.i2d (uA u1 i))), ((ad 6), aD q 16 (fun i => FP.i2d (uB u1 i))), ((ad 7), aD q 16 (uF u1))] ++ TW (uN u1) (WQ q (uC u1))) := hD
        have hA : vAct v V = vFilter (lowV (v >>> (11 &&& 31)) 4) ((1 : Int32) + (lowV (v >>> (8 &&& 31)) 4)) ((500 : Int32) + (lowV (v >>> (9 &&& 31)) 501)) V := by unfold vAct; rw [if_neg hcnd1]; unfold actE; rw [← hcs]; rw [selV_3]; rw [if_pos hcnd3]
        rw [← hA] at hw
        refine W.widen (k := 11) (n := 73) (Nat.le_of_ble_eq_true rfl) (Nat.le_of_ble_eq_true rfl) ?_
        have hP9 := hP
        have hD9 := hD
        refine W.endD hu92 ?_
        exact W.lret (v := r1) hx hb hr (fun t ht hW => ⟨⟨r1, u1, rfl, hw, by rw [ht]; exact hP9, hD9⟩, hS.F ht⟩) hS.2.2 dL_act_320
      · skip
        refine lv_icmp_ne (tgt := 305) hx hb dL_act_285 (by decide) (fun _ => ?_) (fun h => absurd h hcnd3)
        refine lv_iconst (v := 1) hx hb dL_act_305 (by decide) ?_
        refine lv_iload_n hx hb dL_act_306 rfl (lv_at hl 6 rfl) ?_
        refine lv_bipush (v := 9) hx hb dL_act_307 (by decide) ?_
        refine lv_ishr hx hb dL_act_309 ?_
        refine lv_sipush (v := 400) hx hb dL_act_310 (by decide) ?_
        have hPc := hP.sub (ws' := []) [] rfl
        have hDc := hD.sub (ws' := []) [] (by decide) rfl
        have hFc := va_free (wc := []) hD hS hA [] rfl
        refine va_calli (va_runS (As := [.int (v >>> (9 &&& 31)), .int 400]) (rest := [.int 1, .int ((1 : Int32) + (lowV (v >>> (8 &&& 31)) 4)), .int (lowV (v >>> (11 &&& 31)) 4), .ref (ad 0)]) ⟨hx, hb, hml, hown, (dr_words hts s.drawn)⟩ (m_L_low l G q H.size (v >>> (9 &&& 31)) 400 (by decide)) (va_cwS 2 (dr_words hts s.drawn) gL_act_L_low rfl rfl rfl (by decide +kernel) ⟨Nat.le_of_ble_eq_true rfl, Nat.le_of_ble_eq_true rfl⟩) ⟨preW_blind, preW_start (s := s.setDrawn s.drawn) hPc hK hDc (hNF.drawn s.drawn)⟩ rfl rfl hl.1 rfl (lv_room (Nat.le_of_ble_eq_true rfl)) dL_act_313 ⟨(by show _ ≤ 11; omega), (by show _ ≤ 73; omega)⟩) hS (fun q _ h => hFc q h) hFc (fun rl u9 t9 H1 locs ht9 hv9 hw hB9 hz9 hk9 hS => ?_)
        obtain ⟨⟩ := u9
        obtain ⟨hP1, hD1⟩ := hB9
        rw [ht9] at hP1
        obtain ⟨hP, hD⟩ := va_joinQ (wr := [((ad 0), .inr (3, [.ref (ad 1), .ref (ad 2), .int (nI (uN u))])), ((ad 2), aF q 6 (fun j => if j < uN u then some (uO u j) else none)), ((ad 1), .inr (1, [.ref (ad 3), .ref (ad 4), .ref (ad 5), .ref (ad 6), .ref (ad 7), .double (uM u), .int (nI (uT u))])), ((ad 3), aI q 8 (uP u)), ((ad 4), aD q 8 (fun i => FP.i2d (uX u i))), ((ad 5), aD q 16 (fun i => FP.i2d (uA u i))), ((ad 6), aD q 16 (fun i => FP.i2d (uB u i))), ((ad 7), aD q 16 (uF u))]) (w1 := []) hP hD [] [0, 1, 2, 3, 4, 5, 6, 7] rfl rfl (by decide) (by decide) hk9 hFc hP1 hD1
        generalize H1 = H at hP hS ⊢
        have hP : va_P G vwCl ([((ad 0), .inr (3, [.ref (ad 1), .ref (ad 2), .int (nI (uN u))])), ((ad 2), aF q 6 (fun j => if j < uN u then some (uO u j) else none)), ((ad 1), .inr (1, [.ref (ad 3), .ref (ad 4), .ref (ad 5), .ref (ad 6), .ref (ad 7), .double (uM u), .int (nI (uT u))])), ((ad 3), aI q 8 (uP u)), ((ad 4), aD q 8 (fun i => FP.i2d (uX u i))), ((ad 5), aD q 16 (fun i => FP.i2d (uA u i))), ((ad 6), aD q 16 (fun i => FP.i2d (uB u i))), ((ad 7), aD q 16 (uF u))] ++ TW (uN u) (WQ q (uC u))) H := hP
        have hD : va_D A ([((ad 0), .inr (3, [.ref (ad 1), .ref (ad 2), .int (nI (uN u))])), ((ad 2), aF q 6 (fun j => if j < uN u then some (uO u j) else none)), ((ad 1), .inr (1, [.ref (ad 3), .ref (ad 4), .ref (ad 5), .ref (ad 6), .ref (ad 7), .double (uM u), .int (nI (uT u))])), ((ad 3), aI q 8 (uP u)), ((ad 4), aD q 8 (fun i => FP.i2d (uX u i))), ((ad 5), aD q 16 (fun i => FP.i2d (uA u i))), ((ad 6), aD q 16 (fun i => FP.i2d (uB u i))), ((ad 7), aD q 16 (uF u))] ++ TW (uN u) (WQ q (uC u))) := hD
        try dsimp only at hw
        subst hw
        refine lv_iadd hx hb dL_act_316 ?_
        refine lv_topi (fun x95 ex95 => ?_)
        obtain rfl : x95 = ((1 : Int32) + (lowV (v >>> (9 &&& 31)) 400)) := ex95
        have hPc := hP.part (cx := [((ad 0), .inr (3, [.ref (ad 1), .ref (ad 2), .int (nI (uN u))])), ((ad 2), aF q 6 (fun j => if j < uN u then some (uO u j) else none)), ((ad 1), .inr (1, [.ref (ad 3), .ref (ad 4), .ref (ad 5), .ref (ad 6), .ref (ad 7), .double (uM u), .int (nI (uT u))])), ((ad 3), aI q 8 (uP u)), ((ad 4), aD q 8 (fun i => FP.i2d (uX u i))), ((ad 5), aD q 16 (fun i => FP.i2d (uA u i))), ((ad 6), aD q 16 (fun i => FP.i2d (uB u i))), ((ad 7), aD q 16 (uF u))]) [0, 1, 2, 3, 4, 5, 6, 7] rfl
        have hDc := hD.part (cx := [((ad 0), .inr (3, [.ref (ad 1), .ref (ad 2), .int (nI (uN u))])), ((ad 2), aF q 6 (fun j => if j < uN u then some (uO u j) else none)), ((ad 1), .inr (1, [.ref (ad 3), .ref (ad 4), .ref (ad 5), .ref (ad 6), .ref (ad 7), .double (uM u), .int (nI (uT u))])), ((ad 3), aI q 8 (uP u)), ((ad 4), aD q 8 (fun i => FP.i2d (uX u i))), ((ad 5), aD q 16 (fun i => FP.i2d (uA u i))), ((ad 6), aD q 16 (fun i => FP.i2d (uB u i))), ((ad 7), aD q 16 (uF u))]) [0, 1, 2, 3, 4, 5, 6, 7] (by decide) rfl
        have hFc := va_freeP (cx := [((ad 0), .inr (3, [.ref (ad 1), .ref (ad 2), .int (nI (uN u))])), ((ad 2), aF q 6 (fun j => if j < uN u then some (uO u j) else none)), ((ad 1), .inr (1, [.ref (ad 3), .ref (ad 4), .ref (ad 5), .ref (ad 6), .ref (ad 7), .double (uM u), .int (nI (uT u))])), ((ad 3), aI q 8 (uP u)), ((ad 4), aD q 8 (fun i => FP.i2d (uX u i))), ((ad 5), aD q 16 (fun i => FP.i2d (uA u i))), ((ad 6), aD q 16 (fun i => FP.i2d (uB u i))), ((ad 7), aD q 16 (uF u))]) hD hS hA [0, 1, 2, 3, 4, 5, 6, 7] rfl
        refine va_calllD hd0 (swd_run (As := [.ref (ad 0), .int (lowV (v >>> (11 &&& 31)) 4), .int ((1 : Int32) + (lowV (v >>> (8 &&& 31)) 4)), .int ((1 : Int32) + (lowV (v >>> (9 &&& 31)) 400))]) (rest := []) ⟨hx, hb, hml, hown, (dr_words hts s.drawn)⟩ (h_filter hst (lowV (v >>> (11 &&& 31)) 4) ((1 : Int32) + (lowV (v >>> (8 &&& 31)) 4)) ((1 : Int32) + (lowV (v >>> (9 &&& 31)) 400)) G q H.size ad V u hu) (vx_cwSW 4 (dr_words hts s.drawn) gL_act_L_filter rfl rfl rfl (by decide +kernel) ⟨Nat.le_of_ble_eq_true rfl, Nat.le_of_ble_eq_true rfl⟩) ⟨preY_blind, preY_start (s := s.setDrawn s.drawn) hPc hK hDc (hNF.drawn s.drawn) (hNT.drawn s.drawn) (hNC.drawn s.drawn) hS (fun q h => hFc q h)⟩ rfl rfl hl.1 rfl (lv_room (Nat.le_of_ble_eq_true rfl)) dL_act_317 ⟨(by show _ ≤ 11; omega), (by show _ ≤ 73; omega)⟩) hS (fun q _ h => hFc q h) hFc (fun r1 u9 t9 H1 locs ht9 hv99 hw hB9 hz9 hk9 hS du96 hu96 => ?_)
        obtain ⟨u1, rfl⟩ : ∃ z, z = u9 := ⟨_, rfl⟩
        obtain ⟨hP1, hD1⟩ := hB9
        rw [ht9] at hP1
        obtain ⟨hP, hD⟩ := va_joinP (wr := []) (rx := [((ad 0), .inr (3, [.ref (ad 1), .ref (ad 2), .int (nI (uN u1))])), ((ad 2), aF q 6 (fun j => if j < uN u1 then some (uO u1 j) else none)), ((ad 1), .inr (1, [.ref (ad 3), .ref (ad 4), .ref (ad 5), .ref (ad 6), .ref (ad 7), .double (uM u1), .int (nI (uT u1))])), ((ad 3), aI q 8 (uP u1)), ((ad 4), aD q 8 (fun i => FP.i2d (uX u1 i))), ((ad 5), aD q 16 (fun i => FP.i2d (uA u1 i))), ((ad 6), aD q 16 (fun i => FP.i2d (uB u1 i))), ((ad 7), aD q 16 (uF u1))]) (pl1 := TW (uN u1) (WQ q (uC u1))) hP hD [0, 1, 2, 3, 4, 5, 6, 7] [] rfl rfl (by decide) (by decide) hk9 hFc hP1 hD1
        generalize H1 = H at hP hS ⊢
        have hP : va_P G vwCl ([((ad 0), .inr (3, [.ref (ad 1), .ref (ad 2), .int (nI (uN u1))])), ((ad 2), aF q 6 (fun j => if j < uN u1 then some (uO u1 j) else none)), ((ad 1), .inr (1, [.ref (ad 3), .ref (ad 4), .ref (ad 5), .ref (ad 6), .ref (ad 7), .double (uM u1), .int (nI (uT u1))])), ((ad 3), aI q 8 (uP u1)), ((ad 4), aD q 8 (fun i => FP.i2d (uX u1 i))), ((ad 5), aD q 16 (fun i => FP.i2d (uA u1 i))), ((ad 6), aD q 16 (fun i => FP.i2d (uB u1 i))), ((ad 7), aD q 16 (uF u1))] ++ TW (uN u1) (WQ q (uC u1))) H := hP
        have hD : va_D A ([((ad 0), .inr (3, [.ref (ad 1), .ref (ad 2), .int (nI (uN u1))])), ((ad 2), aF q 6 (fun j => if j < uN u1 then some (uO u1 j) else none)), ((ad 1), .inr (1, [.ref (ad 3), .ref (ad 4), .ref (ad 5), .ref (ad 6), .ref (ad 7), .double (uM u1), .int (nI (uT u1))])), ((ad 3), aI q 8 (uP u1)), ((ad 4), aD q 8 (fun i => FP.i2d (uX u1 i))), ((ad 5), aD q 16 (fun i => FP.i2d (uA u1 i))), ((ad 6), aD q 16 (fun i => FP.i2d (uB u1 i))), ((ad 7), aD q 16 (uF u1))] ++ TW (uN u1) (WQ q (uC u1))) := hD
        have hA : vAct v V = vFilter (lowV (v >>> (11 &&& 31)) 4) ((1 : Int32) + (lowV (v >>> (8 &&& 31)) 4)) ((1 : Int32) + (lowV (v >>> (9 &&& 31)) 400)) V := by unfold vAct; rw [if_neg hcnd1]; unfold actE; rw [← hcs]; rw [selV_3]; rw [if_neg hcnd3]
        rw [← hA] at hw
        refine W.widen (k := 11) (n := 73) (Nat.le_of_ble_eq_true rfl) (Nat.le_of_ble_eq_true rfl) ?_
        have hP9 := hP
        have hD9 := hD
        refine W.endD hu96 ?_
        exact W.lret (v := r1) hx hb hr (fun t ht hW => ⟨⟨r1, u1, rfl, hw, by rw [ht]; exact hP9, hD9⟩, hS.F ht⟩) hS.2.2 dL_act_320
    · skip
      refine lv_tableIn (off := 125) (tgt := 257) hx hb dL_act_132 (by decide) (by decide) (by decide) (by decide) ?_
      refine lv_aload_n hx hb dL_act_257 rfl (lv_at hl 5 rfl) ?_
      refine lv_iload hx hb dL_act_258 (lv_at hl 0 rfl) ?_
      refine lv_iload_n hx hb dL_act_260 rfl (lv_at hl 4 rfl) ?_
      refine lv_if_eq (tgt := 269) hx hb dL_act_261 (by decide) (fun _ => ?_) (fun h => absurd (by decide) h)
      refine lv_iconst (v := 1) hx hb dL_act_269 (by decide) ?_
      refine lv_iload hx hb dL_act_270 (lv_at hl 2 rfl) ?_
      refine lv_iadd hx hb dL_act_272 ?_
      refine lv_topi (fun x98 ex98 => ?_)
      obtain rfl : x98 = ((1 : Int32) + (lowV (v >>> (8 &&& 31)) 4)) := ex98
      refine lv_iload_n hx hb dL_act_273 rfl (lv_at hl 4 rfl) ?_
      refine lv_if_eq (tgt := 282) hx hb dL_act_274 (by decide) (fun _ => ?_) (fun h => absurd (by decide) h)
      refine lv_iload hx hb dL_act_282 (lv_at hl 0 rfl) ?_
      refine lv_iconst (v := 3) hx hb dL_act_284 (by decide) ?_
      by_cases hcnd4 : (lowV (v >>> (11 &&& 31)) 4) = 3
      · skip
        refine lv_icmp_ne (tgt := 305) hx hb dL_act_285 (by decide) (fun h => absurd hcnd4 h) (fun _ => ?_)
        refine lv_sipush (v := 500) hx hb dL_act_288 (by decide) ?_
        refine lv_iload_n hx hb dL_act_291 rfl (lv_at hl 6 rfl) ?_
        refine lv_bipush (v := 9) hx hb dL_act_292 (by decide) ?_
        refine lv_ishr hx hb dL_act_294 ?_
        refine lv_sipush (v := 501) hx hb dL_act_295 (by decide) ?_
        have hPc := hP.sub (ws' := []) [] rfl
        have hDc := hD.sub (ws' := []) [] (by decide) rfl
        have hFc := va_free (wc := []) hD hS hA [] rfl
        refine va_calli (va_runS (As := [.int (v >>> (9 &&& 31)), .int 501]) (rest := [.int 500, .int ((1 : Int32) + (lowV (v >>> (8 &&& 31)) 4)), .int (lowV (v >>> (11 &&& 31)) 4), .ref (ad 0)]) ⟨hx, hb, hml, hown, (dr_words hts s.drawn)⟩ (m_L_low l G q H.size (v >>> (9 &&& 31)) 501 (by decide)) (va_cwS 2 (dr_words hts s.drawn) gL_act_L_low rfl rfl rfl (by decide +kernel) ⟨Nat.le_of_ble_eq_true rfl, Nat.le_of_ble_eq_true rfl⟩) ⟨preW_blind, preW_start (s := s.setDrawn s.drawn) hPc hK hDc (hNF.drawn s.drawn)⟩ rfl rfl hl.1 rfl (lv_room (Nat.le_of_ble_eq_true rfl)) dL_act_298 ⟨(by show _ ≤ 11; omega), (by show _ ≤ 73; omega)⟩) hS (fun q _ h => hFc q h) hFc (fun rl u9 t9 H1 locs ht9 hv9 hw hB9 hz9 hk9 hS => ?_)
        obtain ⟨⟩ := u9
        obtain ⟨hP1, hD1⟩ := hB9
        rw [ht9] at hP1
        obtain ⟨hP, hD⟩ := va_joinQ (wr := [((ad 0), .inr (3, [.ref (ad 1), .ref (ad 2), .int (nI (uN u))])), ((ad 2), aF q 6 (fun j => if j < uN u then some (uO u j) else none)), ((ad 1), .inr (1, [.ref (ad 3), .ref (ad 4), .ref (ad 5), .ref (ad 6), .ref (ad 7), .double (uM u), .int (nI (uT u))])), ((ad 3), aI q 8 (uP u)), ((ad 4), aD q 8 (fun i => FP.i2d (uX u i))), ((ad 5), aD q 16 (fun i => FP.i2d (uA u i))), ((ad 6), aD q 16 (fun i => FP.i2d (uB u i))), ((ad 7), aD q 16 (uF u))]) (w1 := []) hP hD [] [0, 1, 2, 3, 4, 5, 6, 7] rfl rfl (by decide) (by decide) hk9 hFc hP1 hD1
        generalize H1 = H at hP hS ⊢
        have hP : va_P G vwCl ([((ad 0), .inr (3, [.ref (ad 1), .ref (ad 2), .int (nI (uN u))])), ((ad 2), aF q 6 (fun j => if j < uN u then some (uO u j) else none)), ((ad 1), .inr (1, [.ref (ad 3), .ref (ad 4), .ref (ad 5), .ref (ad 6), .ref (ad 7), .double (uM u), .int (nI (uT u))])), ((ad 3), aI q 8 (uP u)), ((ad 4), aD q 8 (fun i => FP.i2d (uX u i))), ((ad 5), aD q 16 (fun i => FP.i2d (uA u i))), ((ad 6), aD q 16 (fun i => FP.i2d (uB u i))), ((ad 7), aD q 16 (uF u))] ++ TW (uN u) (WQ q (uC u))) H := hP
        have hD : va_D A ([((ad 0), .inr (3, [.ref (ad 1), .ref (ad 2), .int (nI (uN u))])), ((ad 2), aF q 6 (fun j => if j < uN u then some (uO u j) else none)), ((ad 1), .inr (1, [.ref (ad 3), .ref (ad 4), .ref (ad 5), .ref (ad 6), .ref (ad 7), .double (uM u), .int (nI (uT u))])), ((ad 3), aI q 8 (uP u)), ((ad 4), aD q 8 (fun i => FP.i2d (uX u i))), ((ad 5), aD q 16 (fun i => FP.i2d (uA u i))), ((ad 6), aD q 16 (fun i => FP.i2d (uB u i))), ((ad 7), aD q 16 (uF u))] ++ TW (uN u) (WQ q (uC u))) := hD
        try dsimp only at hw
        subst hw
        refine lv_iadd hx hb dL_act_301 ?_
        refine lv_topi (fun x102 ex102 => ?_)
        obtain rfl : x102 = ((500 : Int32) + (lowV (v >>> (9 &&& 31)) 501)) := ex102
        refine lv_goto (tgt := 317) hx hb dL_act_302 (by decide) ?_
        have hPc := hP.part (cx := [((ad 0), .inr (3, [.ref (ad 1), .ref (ad 2), .int (nI (uN u))])), ((ad 2), aF q 6 (fun j => if j < uN u then some (uO u j) else none)), ((ad 1), .inr (1, [.ref (ad 3), .ref (ad 4), .ref (ad 5), .ref (ad 6), .ref (ad 7), .double (uM u), .int (nI (uT u))])), ((ad 3), aI q 8 (uP u)), ((ad 4), aD q 8 (fun i => FP.i2d (uX u i))), ((ad 5), aD q 16 (fun i => FP.i2d (uA u i))), ((ad 6), aD q 16 (fun i => FP.i2d (uB u i))), ((ad 7), aD q 16 (uF u))]) [0, 1, 2, 3, 4, 5, 6, 7] rfl
        have hDc := hD.part (cx := [((ad 0), .inr (3, [.ref (ad 1), .ref (ad 2), .int (nI (uN u))])), ((ad 2), aF q 6 (fun j => if j < uN u then some (uO u j) else none)), ((ad 1), .inr (1, [.ref (ad 3), .ref (ad 4), .ref (ad 5), .ref (ad 6), .ref (ad 7), .double (uM u), .int (nI (uT u))])), ((ad 3), aI q 8 (uP u)), ((ad 4), aD q 8 (fun i => FP.i2d (uX u i))), ((ad 5), aD q 16 (fun i => FP.i2d (uA u i))), ((ad 6), aD q 16 (fun i => FP.i2d (uB u i))), ((ad 7), aD q 16 (uF u))]) [0, 1, 2, 3, 4, 5, 6, 7] (by decide) rfl
        have hFc := va_freeP (cx := [((ad 0), .inr (3, [.ref (ad 1), .ref (ad 2), .int (nI (uN u))])), ((ad 2), aF q 6 (fun j => if j < uN u then some (uO u j) else none)), ((ad 1), .inr (1, [.ref (ad 3), .ref (ad 4), .ref (ad 5), .ref (ad 6), .ref (ad 7), .double (uM u), .int (nI (uT u))])), ((ad 3), aI q 8 (uP u)), ((ad 4), aD q 8 (fun i => FP.i2d (uX u i))), ((ad 5), aD q 16 (fun i => FP.i2d (uA u i))), ((ad 6), aD q 16 (fun i => FP.i2d (uB u i))), ((ad 7), aD q 16 (uF u))]) hD hS hA [0, 1, 2, 3, 4, 5, 6, 7] rfl
        refine va_calllD hd0 (swd_run (As := [.ref (ad 0), .int (lowV (v >>> (11 &&& 31)) 4), .int ((1 : Int32) + (lowV (v >>> (8 &&& 31)) 4)), .int ((500 : Int32) + (lowV (v >>> (9 &&& 31)) 501))]) (rest := []) ⟨hx, hb, hml, hown, (dr_words hts s.drawn)⟩ (h_filter hst (lowV (v >>> (11 &&& 31)) 4) ((1 : Int32) + (lowV (v >>> (8 &&& 31)) 4)) ((500 : Int32) + (lowV (v >>> (9 &&& 31)) 501)) G q H.size ad V u hu) (vx_cwSW 4 (dr_words hts s.drawn) gL_act_L_filter rfl rfl rfl (by decide +kernel) ⟨Nat.le_of_ble_eq_true rfl, Nat.le_of_ble_eq_true rfl⟩) ⟨preY_blind, preY_start (s := s.setDrawn s.drawn) hPc hK hDc (hNF.drawn s.drawn) (hNT.drawn s.drawn) (hNC.drawn s.drawn) hS (fun q h => hFc q h)⟩ rfl rfl hl.1 rfl (lv_room (Nat.le_of_ble_eq_true rfl)) dL_act_317 ⟨(by show _ ≤ 11; omega), (by show _ ≤ 73; omega)⟩) hS (fun q _ h => hFc q h) hFc (fun r1 u9 t9 H1 locs ht9 hv99 hw hB9 hz9 hk9 hS du103 hu103 => ?_)
        obtain ⟨u1, rfl⟩ : ∃ z, z = u9 := ⟨_, rfl⟩
        obtain ⟨hP1, hD1⟩ := hB9
        rw [ht9] at hP1
        obtain ⟨hP, hD⟩ := va_joinP (wr := []) (rx := [((ad 0), .inr (3, [.ref (ad 1), .ref (ad 2), .int (nI (uN u1))])), ((ad 2), aF q 6 (fun j => if j < uN u1 then some (uO u1 j) else none)), ((ad 1), .inr (1, [.ref (ad 3), .ref (ad 4), .ref (ad 5), .ref (ad 6), .ref (ad 7), .double (uM u1), .int (nI (uT u1))])), ((ad 3), aI q 8 (uP u1)), ((ad 4), aD q 8 (fun i => FP.i2d (uX u1 i))), ((ad 5), aD q 16 (fun i => FP.i2d (uA u1 i))), ((ad 6), aD q 16 (fun i => FP.i2d (uB u1 i))), ((ad 7), aD q 16 (uF u1))]) (pl1 := TW (uN u1) (WQ q (uC u1))) hP hD [0, 1, 2, 3, 4, 5, 6, 7] [] rfl rfl (by decide) (by decide) hk9 hFc hP1 hD1
        generalize H1 = H at hP hS ⊢
        have hP : va_P G vwCl ([((ad 0), .inr (3, [.ref (ad 1), .ref (ad 2), .int (nI (uN u1))])), ((ad 2), aF q 6 (fun j => if j < uN u1 then some (uO u1 j) else none)), ((ad 1), .inr (1, [.ref (ad 3), .ref (ad 4), .ref (ad 5), .ref (ad 6), .ref (ad 7), .double (uM u1), .int (nI (uT u1))])), ((ad 3), aI q 8 (uP u1)), ((ad 4), aD q 8 (fun i => FP.i2d (uX u1 i))), ((ad 5), aD q 16 (fun i => FP.i2d (uA u1 i))), ((ad 6), aD q 16 (fun i => FP.i2d (uB u1 i))), ((ad 7), aD q 16 (uF u1))] ++ TW (uN u1) (WQ q (uC u1))) H := hP
        have hD : va_D A ([((ad 0), .inr (3, [.ref (ad 1), .ref (ad 2), .int (nI (uN u1))])), ((ad 2), aF q 6 (fun j => if j < uN u1 then some (uO u1 j) else none)), ((ad 1), .inr (1, [.ref (ad 3), .ref (ad 4), .ref (ad 5), .ref (ad 6), .ref (ad 7), .double (uM u1), .int (nI (uT u1))])), ((ad 3), aI q 8 (uP u1)), ((ad 4), aD q 8 (fun i => FP.i2d (uX u1 i))), ((ad 5), aD q 16 (fun i => FP.i2d (uA u1 i))), ((ad 6), aD q 16 (fun i => FP.i2d (uB u1 i))), ((ad 7), aD q 16 (uF u1))] ++ TW (uN u1) (WQ q (uC u1))) := hD
        have hA : vAct v V = vFilter (lowV (v >>> (11 &&& 31)) 4) ((1 : Int32) + (lowV (v >>> (8 &&& 31)) 4)) ((500 : Int32) + (lowV (v >>> (9 &&& 31)) 501)) V := by unfold vAct; rw [if_neg hcnd1]; unfold actE; rw [← hcs]; rw [selV_4]; rw [if_pos hcnd4]
        rw [← hA] at hw
        refine W.widen (k := 11) (n := 73) (Nat.le_of_ble_eq_true rfl) (Nat.le_of_ble_eq_true rfl) ?_
        have hP9 := hP
        have hD9 := hD
        refine W.endD hu103 ?_
        exact W.lret (v := r1) hx hb hr (fun t ht hW => ⟨⟨r1, u1, rfl, hw, by rw [ht]; exact hP9, hD9⟩, hS.F ht⟩) hS.2.2 dL_act_320
      · skip
        refine lv_icmp_ne (tgt := 305) hx hb dL_act_285 (by decide) (fun _ => ?_) (fun h => absurd h hcnd4)
        refine lv_iconst (v := 1) hx hb dL_act_305 (by decide) ?_
        refine lv_iload_n hx hb dL_act_306 rfl (lv_at hl 6 rfl) ?_
        refine lv_bipush (v := 9) hx hb dL_act_307 (by decide) ?_
        refine lv_ishr hx hb dL_act_309 ?_
        refine lv_sipush (v := 400) hx hb dL_act_310 (by decide) ?_
        have hPc := hP.sub (ws' := []) [] rfl
        have hDc := hD.sub (ws' := []) [] (by decide) rfl
        have hFc := va_free (wc := []) hD hS hA [] rfl
        refine va_calli (va_runS (As := [.int (v >>> (9 &&& 31)), .int 400]) (rest := [.int 1, .int ((1 : Int32) + (lowV (v >>> (8 &&& 31)) 4)), .int (lowV (v >>> (11 &&& 31)) 4), .ref (ad 0)]) ⟨hx, hb, hml, hown, (dr_words hts s.drawn)⟩ (m_L_low l G q H.size (v >>> (9 &&& 31)) 400 (by decide)) (va_cwS 2 (dr_words hts s.drawn) gL_act_L_low rfl rfl rfl (by decide +kernel) ⟨Nat.le_of_ble_eq_true rfl, Nat.le_of_ble_eq_true rfl⟩) ⟨preW_blind, preW_start (s := s.setDrawn s.drawn) hPc hK hDc (hNF.drawn s.drawn)⟩ rfl rfl hl.1 rfl (lv_room (Nat.le_of_ble_eq_true rfl)) dL_act_313 ⟨(by show _ ≤ 11; omega), (by show _ ≤ 73; omega)⟩) hS (fun q _ h => hFc q h) hFc (fun rl u9 t9 H1 locs ht9 hv9 hw hB9 hz9 hk9 hS => ?_)
        obtain ⟨⟩ := u9
        obtain ⟨hP1, hD1⟩ := hB9
        rw [ht9] at hP1
        obtain ⟨hP, hD⟩ := va_joinQ (wr := [((ad 0), .inr (3, [.ref (ad 1), .ref (ad 2), .int (nI (uN u))])), ((ad 2), aF q 6 (fun j => if j < uN u then some (uO u j) else none)), ((ad 1), .inr (1, [.ref (ad 3), .ref (ad 4), .ref (ad 5), .ref (ad 6), .ref (ad 7), .double (uM u), .int (nI (uT u))])), ((ad 3), aI q 8 (uP u)), ((ad 4), aD q 8 (fun i => FP.i2d (uX u i))), ((ad 5), aD q 16 (fun i => FP.i2d (uA u i))), ((ad 6), aD q 16 (fun i => FP.i2d (uB u i))), ((ad 7), aD q 16 (uF u))]) (w1 := []) hP hD [] [0, 1, 2, 3, 4, 5, 6, 7] rfl rfl (by decide) (by decide) hk9 hFc hP1 hD1
        generalize H1 = H at hP hS ⊢
        have hP : va_P G vwCl ([((ad 0), .inr (3, [.ref (ad 1), .ref (ad 2), .int (nI (uN u))])), ((ad 2), aF q 6 (fun j => if j < uN u then some (uO u j) else none)), ((ad 1), .inr (1, [.ref (ad 3), .ref (ad 4), .ref (ad 5), .ref (ad 6), .ref (ad 7), .double (uM u), .int (nI (uT u))])), ((ad 3), aI q 8 (uP u)), ((ad 4), aD q 8 (fun i => FP.i2d (uX u i))), ((ad 5), aD q 16 (fun i => FP.i2d (uA u i))), ((ad 6), aD q 16 (fun i => FP.i2d (uB u i))), ((ad 7), aD q 16 (uF u))] ++ TW (uN u) (WQ q (uC u))) H := hP
        have hD : va_D A ([((ad 0), .inr (3, [.ref (ad 1), .ref (ad 2), .int (nI (uN u))])), ((ad 2), aF q 6 (fun j => if j < uN u then some (uO u j) else none)), ((ad 1), .inr (1, [.ref (ad 3), .ref (ad 4), .ref (ad 5), .ref (ad 6), .ref (ad 7), .double (uM u), .int (nI (uT u))])), ((ad 3), aI q 8 (uP u)), ((ad 4), aD q 8 (fun i => FP.i2d (uX u i))), ((ad 5), aD q 16 (fun i => FP.i2d (uA u i))), ((ad 6), aD q 16 (fun i => FP.i2d (uB u i))), ((ad 7), aD q 16 (uF u))] ++ TW (uN u) (WQ q (uC u))) := hD
        try dsimp only at hw
        subst hw
        refine lv_iadd hx hb dL_act_316 ?_
        refine lv_topi (fun x106 ex106 => ?_)
        obtain rfl : x106 = ((1 : Int32) + (lowV (v >>> (9 &&& 31)) 400)) := ex106
        have hPc := hP.part (cx := [((ad 0), .inr (3, [.ref (ad 1), .ref (ad 2), .int (nI (uN u))])), ((ad 2), aF q 6 (fun j => if j < uN u then some (uO u j) else none)), ((ad 1), .inr (1, [.ref (ad 3), .ref (ad 4), .ref (ad 5), .ref (ad 6), .ref (ad 7), .double (uM u), .int (nI (uT u))])), ((ad 3), aI q 8 (uP u)), ((ad 4), aD q 8 (fun i => FP.i2d (uX u i))), ((ad 5), aD q 16 (fun i => FP.i2d (uA u i))), ((ad 6), aD q 16 (fun i => FP.i2d (uB u i))), ((ad 7), aD q 16 (uF u))]) [0, 1, 2, 3, 4, 5, 6, 7] rfl
        have hDc := hD.part (cx := [((ad 0), .inr (3, [.ref (ad 1), .ref (ad 2), .int (nI (uN u))])), ((ad 2), aF q 6 (fun j => if j < uN u then some (uO u j) else none)), ((ad 1), .inr (1, [.ref (ad 3), .ref (ad 4), .ref (ad 5), .ref (ad 6), .ref (ad 7), .double (uM u), .int (nI (uT u))])), ((ad 3), aI q 8 (uP u)), ((ad 4), aD q 8 (fun i => FP.i2d (uX u i))), ((ad 5), aD q 16 (fun i => FP.i2d (uA u i))), ((ad 6), aD q 16 (fun i => FP.i2d (uB u i))), ((ad 7), aD q 16 (uF u))]) [0, 1, 2, 3, 4, 5, 6, 7] (by decide) rfl
        have hFc := va_freeP (cx := [((ad 0), .inr (3, [.ref (ad 1), .ref (ad 2), .int (nI (uN u))])), ((ad 2), aF q 6 (fun j => if j < uN u then some (uO u j) else none)), ((ad 1), .inr (1, [.ref (ad 3), .ref (ad 4), .ref (ad 5), .ref (ad 6), .ref (ad 7), .double (uM u), .int (nI (uT u))])), ((ad 3), aI q 8 (uP u)), ((ad 4), aD q 8 (fun i => FP.i2d (uX u i))), ((ad 5), aD q 16 (fun i => FP.i2d (uA u i))), ((ad 6), aD q 16 (fun i => FP.i2d (uB u i))), ((ad 7), aD q 16 (uF u))]) hD hS hA [0, 1, 2, 3, 4, 5, 6, 7] rfl
        refine va_calllD hd0 (swd_run (As := [.ref (ad 0), .int (lowV (v >>> (11 &&& 31)) 4), .int ((1 : Int32) + (lowV (v >>> (8 &&& 31)) 4)), .int ((1 : Int32) + (lowV (v >>> (9 &&& 31)) 400))]) (rest := []) ⟨hx, hb, hml, hown, (dr_words hts s.drawn)⟩ (h_filter hst (lowV (v >>> (11 &&& 31)) 4) ((1 : Int32) + (lowV (v >>> (8 &&& 31)) 4)) ((1 : Int32) + (lowV (v >>> (9 &&& 31)) 400)) G q H.size ad V u hu) (vx_cwSW 4 (dr_words hts s.drawn) gL_act_L_filter rfl rfl rfl (by decide +kernel) ⟨Nat.le_of_ble_eq_true rfl, Nat.le_of_ble_eq_true rfl⟩) ⟨preY_blind, preY_start (s := s.setDrawn s.drawn) hPc hK hDc (hNF.drawn s.drawn) (hNT.drawn s.drawn) (hNC.drawn s.drawn) hS (fun q h => hFc q h)⟩ rfl rfl hl.1 rfl (lv_room (Nat.le_of_ble_eq_true rfl)) dL_act_317 ⟨(by show _ ≤ 11; omega), (by show _ ≤ 73; omega)⟩) hS (fun q _ h => hFc q h) hFc (fun r1 u9 t9 H1 locs ht9 hv99 hw hB9 hz9 hk9 hS du107 hu107 => ?_)
        obtain ⟨u1, rfl⟩ : ∃ z, z = u9 := ⟨_, rfl⟩
        obtain ⟨hP1, hD1⟩ := hB9
        rw [ht9] at hP1
        obtain ⟨hP, hD⟩ := va_joinP (wr := []) (rx := [((ad 0), .inr (3, [.ref (ad 1), .ref (ad 2), .int (nI (uN u1))])), ((ad 2), aF q 6 (fun j => if j < uN u1 then some (uO u1 j) else none)), ((ad 1), .inr (1, [.ref (ad 3), .ref (ad 4), .ref (ad 5), .ref (ad 6), .ref (ad 7), .double (uM u1), .int (nI (uT u1))])), ((ad 3), aI q 8 (uP u1)), ((ad 4), aD q 8 (fun i => FP.i2d (uX u1 i))), ((ad 5), aD q 16 (fun i => FP.i2d (uA u1 i))), ((ad 6), aD q 16 (fun i => FP.i2d (uB u1 i))), ((ad 7), aD q 16 (uF u1))]) (pl1 := TW (uN u1) (WQ q (uC u1))) hP hD [0, 1, 2, 3, 4, 5, 6, 7] [] rfl rfl (by decide) (by decide) hk9 hFc hP1 hD1
        generalize H1 = H at hP hS ⊢
        have hP : va_P G vwCl ([((ad 0), .inr (3, [.ref (ad 1), .ref (ad 2), .int (nI (uN u1))])), ((ad 2), aF q 6 (fun j => if j < uN u1 then some (uO u1 j) else none)), ((ad 1), .inr (1, [.ref (ad 3), .ref (ad 4), .ref (ad 5), .ref (ad 6), .ref (ad 7), .double (uM u1), .int (nI (uT u1))])), ((ad 3), aI q 8 (uP u1)), ((ad 4), aD q 8 (fun i => FP.i2d (uX u1 i))), ((ad 5), aD q 16 (fun i => FP.i2d (uA u1 i))), ((ad 6), aD q 16 (fun i => FP.i2d (uB u1 i))), ((ad 7), aD q 16 (uF u1))] ++ TW (uN u1) (WQ q (uC u1))) H := hP
        have hD : va_D A ([((ad 0), .inr (3, [.ref (ad 1), .ref (ad 2), .int (nI (uN u1))])), ((ad 2), aF q 6 (fun j => if j < uN u1 then some (uO u1 j) else none)), ((ad 1), .inr (1, [.ref (ad 3), .ref (ad 4), .ref (ad 5), .ref (ad 6), .ref (ad 7), .double (uM u1), .int (nI (uT u1))])), ((ad 3), aI q 8 (uP u1)), ((ad 4), aD q 8 (fun i => FP.i2d (uX u1 i))), ((ad 5), aD q 16 (fun i => FP.i2d (uA u1 i))), ((ad 6), aD q 16 (fun i => FP.i2d (uB u1 i))), ((ad 7), aD q 16 (uF u1))] ++ TW (uN u1) (WQ q (uC u1))) := hD
        have hA : vAct v V = vFilter (lowV (v >>> (11 &&& 31)) 4) ((1 : Int32) + (lowV (v >>> (8 &&& 31)) 4)) ((1 : Int32) + (lowV (v >>> (9 &&& 31)) 400)) V := by unfold vAct; rw [if_neg hcnd1]; unfold actE; rw [← hcs]; rw [selV_4]; rw [if_neg hcnd4]
        rw [← hA] at hw
        refine W.widen (k := 11) (n := 73) (Nat.le_of_ble_eq_true rfl) (Nat.le_of_ble_eq_true rfl) ?_
        have hP9 := hP
        have hD9 := hD
        refine W.endD hu107 ?_
        exact W.lret (v := r1) hx hb hr (fun t ht hW => ⟨⟨r1, u1, rfl, hw, by rw [ht]; exact hP9, hD9⟩, hS.F ht⟩) hS.2.2 dL_act_320
    · skip
      refine lv_tableIn (off := 125) (tgt := 257) hx hb dL_act_132 (by decide) (by decide) (by decide) (by decide) ?_
      refine lv_aload_n hx hb dL_act_257 rfl (lv_at hl 5 rfl) ?_
      refine lv_iload hx hb dL_act_258 (lv_at hl 0 rfl) ?_
      refine lv_iload_n hx hb dL_act_260 rfl (lv_at hl 4 rfl) ?_
      refine lv_if_eq (tgt := 269) hx hb dL_act_261 (by decide) (fun _ => ?_) (fun h => absurd (by decide) h)
      refine lv_iconst (v := 1) hx hb dL_act_269 (by decide) ?_
      refine lv_iload hx hb dL_act_270 (lv_at hl 2 rfl) ?_
      refine lv_iadd hx hb dL_act_272 ?_
      refine lv_topi (fun x109 ex109 => ?_)
      obtain rfl : x109 = ((1 : Int32) + (lowV (v >>> (8 &&& 31)) 4)) := ex109
      refine lv_iload_n hx hb dL_act_273 rfl (lv_at hl 4 rfl) ?_
      refine lv_if_eq (tgt := 282) hx hb dL_act_274 (by decide) (fun _ => ?_) (fun h => absurd (by decide) h)
      refine lv_iload hx hb dL_act_282 (lv_at hl 0 rfl) ?_
      refine lv_iconst (v := 3) hx hb dL_act_284 (by decide) ?_
      by_cases hcnd5 : (lowV (v >>> (11 &&& 31)) 4) = 3
      · skip
        refine lv_icmp_ne (tgt := 305) hx hb dL_act_285 (by decide) (fun h => absurd hcnd5 h) (fun _ => ?_)
        refine lv_sipush (v := 500) hx hb dL_act_288 (by decide) ?_
        refine lv_iload_n hx hb dL_act_291 rfl (lv_at hl 6 rfl) ?_
        refine lv_bipush (v := 9) hx hb dL_act_292 (by decide) ?_
        refine lv_ishr hx hb dL_act_294 ?_
        refine lv_sipush (v := 501) hx hb dL_act_295 (by decide) ?_
        have hPc := hP.sub (ws' := []) [] rfl
        have hDc := hD.sub (ws' := []) [] (by decide) rfl
        have hFc := va_free (wc := []) hD hS hA [] rfl
        refine va_calli (va_runS (As := [.int (v >>> (9 &&& 31)), .int 501]) (rest := [.int 500, .int ((1 : Int32) + (lowV (v >>> (8 &&& 31)) 4)), .int (lowV (v >>> (11 &&& 31)) 4), .ref (ad 0)]) ⟨hx, hb, hml, hown, (dr_words hts s.drawn)⟩ (m_L_low l G q H.size (v >>> (9 &&& 31)) 501 (by decide)) (va_cwS 2 (dr_words hts s.drawn) gL_act_L_low rfl rfl rfl (by decide +kernel) ⟨Nat.le_of_ble_eq_true rfl, Nat.le_of_ble_eq_true rfl⟩) ⟨preW_blind, preW_start (s := s.setDrawn s.drawn) hPc hK hDc (hNF.drawn s.drawn)⟩ rfl rfl hl.1 rfl (lv_room (Nat.le_of_ble_eq_true rfl)) dL_act_298 ⟨(by show _ ≤ 11; omega), (by show _ ≤ 73; omega)⟩) hS (fun q _ h => hFc q h) hFc (fun rl u9 t9 H1 locs ht9 hv9 hw hB9 hz9 hk9 hS => ?_)
        obtain ⟨⟩ := u9
        obtain ⟨hP1, hD1⟩ := hB9
        rw [ht9] at hP1
        obtain ⟨hP, hD⟩ := va_joinQ (wr := [((ad 0), .inr (3, [.ref (ad 1), .ref (ad 2), .int (nI (uN u))])), ((ad 2), aF q 6 (fun j => if j < uN u then some (uO u j) else none)), ((ad 1), .inr (1, [.ref (ad 3), .ref (ad 4), .ref (ad 5), .ref (ad 6), .ref (ad 7), .double (uM u), .int (nI (uT u))])), ((ad 3), aI q 8 (uP u)), ((ad 4), aD q 8 (fun i => FP.i2d (uX u i))), ((ad 5), aD q 16 (fun i => FP.i2d (uA u i))), ((ad 6), aD q 16 (fun i => FP.i2d (uB u i))), ((ad 7), aD q 16 (uF u))]) (w1 := []) hP hD [] [0, 1, 2, 3, 4, 5, 6, 7] rfl rfl (by decide) (by decide) hk9 hFc hP1 hD1
        generalize H1 = H at hP hS ⊢
        have hP : va_P G vwCl ([((ad 0), .inr (3, [.ref (ad 1), .ref (ad 2), .int (nI (uN u))])), ((ad 2), aF q 6 (fun j => if j < uN u then some (uO u j) else none)), ((ad 1), .inr (1, [.ref (ad 3), .ref (ad 4), .ref (ad 5), .ref (ad 6), .ref (ad 7), .double (uM u), .int (nI (uT u))])), ((ad 3), aI q 8 (uP u)), ((ad 4), aD q 8 (fun i => FP.i2d (uX u i))), ((ad 5), aD q 16 (fun i => FP.i2d (uA u i))), ((ad 6), aD q 16 (fun i => FP.i2d (uB u i))), ((ad 7), aD q 16 (uF u))] ++ TW (uN u) (WQ q (uC u))) H := hP
        have hD : va_D A ([((ad 0), .inr (3, [.ref (ad 1), .ref (ad 2), .int (nI (uN u))])), ((ad 2), aF q 6 (fun j => if j < uN u then some (uO u j) else none)), ((ad 1), .inr (1, [.ref (ad 3), .ref (ad 4), .ref (ad 5), .ref (ad 6), .ref (ad 7), .double (uM u), .int (nI (uT u))])), ((ad 3), aI q 8 (uP u)), ((ad 4), aD q 8 (fun i => FP.i2d (uX u i))), ((ad 5), aD q 16 (fun i => FP.i2d (uA u i))), ((ad 6), aD q 16 (fun i => FP.i2d (uB u i))), ((ad 7), aD q 16 (uF u))] ++ TW (uN u) (WQ q (uC u))) := hD
        try dsimp only at hw
        subst hw
        refine lv_iadd hx hb dL_act_301 ?_
        refine lv_topi (fun x113 ex113 => ?_)
        obtain rfl : x113 = ((500 : Int32) + (lowV (v >>> (9 &&& 31)) 501)) := ex113
        refine lv_goto (tgt := 317) hx hb dL_act_302 (by decide) ?_
        have hPc := hP.part (cx := [((ad 0), .inr (3, [.ref (ad 1), .ref (ad 2), .int (nI (uN u))])), ((ad 2), aF q 6 (fun j => if j < uN u then some (uO u j) else none)), ((ad 1), .inr (1, [.ref (ad 3), .ref (ad 4), .ref (ad 5), .ref (ad 6), .ref (ad 7), .double (uM u), .int (nI (uT u))])), ((ad 3), aI q 8 (uP u)), ((ad 4), aD q 8 (fun i => FP.i2d (uX u i))), ((ad 5), aD q 16 (fun i => FP.i2d (uA u i))), ((ad 6), aD q 16 (fun i => FP.i2d (uB u i))), ((ad 7), aD q 16 (uF u))]) [0, 1, 2, 3, 4, 5, 6, 7] rfl
        have hDc := hD.part (cx := [((ad 0), .inr (3, [.ref (ad 1), .ref (ad 2), .int (nI (uN u))])), ((ad 2), aF q 6 (fun j => if j < uN u then some (uO u j) else none)), ((ad 1), .inr (1, [.ref (ad 3), .ref (ad 4), .ref (ad 5), .ref (ad 6), .ref (ad 7), .double (uM u), .int (nI (uT u))])), ((ad 3), aI q 8 (uP u)), ((ad 4), aD q 8 (fun i => FP.i2d (uX u i))), ((ad 5), aD q 16 (fun i => FP.i2d (uA u i))), ((ad 6), aD q 16 (fun i => FP.i2d (uB u i))), ((ad 7), aD q 16 (uF u))]) [0, 1, 2, 3, 4, 5, 6, 7] (by decide) rfl
        have hFc := va_freeP (cx := [((ad 0), .inr (3, [.ref (ad 1), .ref (ad 2), .int (nI (uN u))])), ((ad 2), aF q 6 (fun j => if j < uN u then some (uO u j) else none)), ((ad 1), .inr (1, [.ref (ad 3), .ref (ad 4), .ref (ad 5), .ref (ad 6), .ref (ad 7), .double (uM u), .int (nI (uT u))])), ((ad 3), aI q 8 (uP u)), ((ad 4), aD q 8 (fun i => FP.i2d (uX u i))), ((ad 5), aD q 16 (fun i => FP.i2d (uA u i))), ((ad 6), aD q 16 (fun i => FP.i2d (uB u i))), ((ad 7), aD q 16 (uF u))]) hD hS hA [0, 1, 2, 3, 4, 5, 6, 7] rfl
        refine va_calllD hd0 (swd_run (As := [.ref (ad 0), .int (lowV (v >>> (11 &&& 31)) 4), .int ((1 : Int32) + (lowV (v >>> (8 &&& 31)) 4)), .int ((500 : Int32) + (lowV (v >>> (9 &&& 31)) 501))]) (rest := []) ⟨hx, hb, hml, hown, (dr_words hts s.drawn)⟩ (h_filter hst (lowV (v >>> (11 &&& 31)) 4) ((1 : Int32) + (lowV (v >>> (8 &&& 31)) 4)) ((500 : Int32) + (lowV (v >>> (9 &&& 31)) 501)) G q H.size ad V u hu) (vx_cwSW 4 (dr_words hts s.drawn) gL_act_L_filter rfl rfl rfl (by decide +kernel) ⟨Nat.le_of_ble_eq_true rfl, Nat.le_of_ble_eq_true rfl⟩) ⟨preY_blind, preY_start (s := s.setDrawn s.drawn) hPc hK hDc (hNF.drawn s.drawn) (hNT.drawn s.drawn) (hNC.drawn s.drawn) hS (fun q h => hFc q h)⟩ rfl rfl hl.1 rfl (lv_room (Nat.le_of_ble_eq_true rfl)) dL_act_317 ⟨(by show _ ≤ 11; omega), (by show _ ≤ 73; omega)⟩) hS (fun q _ h => hFc q h) hFc (fun r1 u9 t9 H1 locs ht9 hv99 hw hB9 hz9 hk9 hS du114 hu114 => ?_)
        obtain ⟨u1, rfl⟩ : ∃ z, z = u9 := ⟨_, rfl⟩
        obtain ⟨hP1, hD1⟩ := hB9
        rw [ht9] at hP1
        obtain ⟨hP, hD⟩ := va_joinP (wr := []) (rx := [((ad 0), .inr (3, [.ref (ad 1), .ref (ad 2), .int (nI (uN u1))])), ((ad 2), aF q 6 (fun j => if j < uN u1 then some (uO u1 j) else none)), ((ad 1), .inr (1, [.ref (ad 3), .ref (ad 4), .ref (ad 5), .ref (ad 6), .ref (ad 7), .double (uM u1), .int (nI (uT u1))])), ((ad 3), aI q 8 (uP u1)), ((ad 4), aD q 8 (fun i => FP.i2d (uX u1 i))), ((ad 5), aD q 16 (fun i => FP.i2d (uA u1 i))), ((ad 6), aD q 16 (fun i => FP.i2d (uB u1 i))), ((ad 7), aD q 16 (uF u1))]) (pl1 := TW (uN u1) (WQ q (uC u1))) hP hD [0, 1, 2, 3, 4, 5, 6, 7] [] rfl rfl (by decide) (by decide) hk9 hFc hP1 hD1
        generalize H1 = H at hP hS ⊢
        have hP : va_P G vwCl ([((ad 0), .inr (3, [.ref (ad 1), .ref (ad 2), .int (nI (uN u1))])), ((ad 2), aF q 6 (fun j => if j < uN u1 then some (uO u1 j) else none)), ((ad 1), .inr (1, [.ref (ad 3), .ref (ad 4), .ref (ad 5), .ref (ad 6), .ref (ad 7), .double (uM u1), .int (nI (uT u1))])), ((ad 3), aI q 8 (uP u1)), ((ad 4), aD q 8 (fun i => FP.i2d (uX u1 i))), ((ad 5), aD q 16 (fun i => FP.i2d (uA u1 i))), ((ad 6), aD q 16 (fun i => FP.i2d (uB u1 i))), ((ad 7), aD q 16 (uF u1))] ++ TW (uN u1) (WQ q (uC u1))) H := hP
        have hD : va_D A ([((ad 0), .inr (3, [.ref (ad 1), .ref (ad 2), .int (nI (uN u1))])), ((ad 2), aF q 6 (fun j => if j < uN u1 then some (uO u1 j) else none)), ((ad 1), .inr (1, [.ref (ad 3), .ref (ad 4), .ref (ad 5), .ref (ad 6), .ref (ad 7), .double (uM u1), .int (nI (uT u1))])), ((ad 3), aI q 8 (uP u1)), ((ad 4), aD q 8 (fun i => FP.i2d (uX u1 i))), ((ad 5), aD q 16 (fun i => FP.i2d (uA u1 i))), ((ad 6), aD q 16 (fun i => FP.i2d (uB u1 i))), ((ad 7), aD q 16 (uF u1))] ++ TW (uN u1) (WQ q (uC u1))) := hD
        have hA : vAct v V = vFilter (lowV (v >>> (11 &&& 31)) 4) ((1 : Int32) + (lowV (v >>> (8 &&& 31)) 4)) ((500 : Int32) + (lowV (v >>> (9 &&& 31)) 501)) V := by unfold vAct; rw [if_neg hcnd1]; unfold actE; rw [← hcs]; rw [selV_5]; rw [if_pos hcnd5]
        rw [← hA] at hw
        refine W.widen (k := 11) (n := 73) (Nat.le_of_ble_eq_true rfl) (Nat.le_of_ble_eq_true rfl) ?_
        have hP9 := hP
        have hD9 := hD
        refine W.endD hu114 ?_
        exact W.lret (v := r1) hx hb hr (fun t ht hW => ⟨⟨r1, u1, rfl, hw, by rw [ht]; exact hP9, hD9⟩, hS.F ht⟩) hS.2.2 dL_act_320
      · skip
        refine lv_icmp_ne (tgt := 305) hx hb dL_act_285 (by decide) (fun _ => ?_) (fun h => absurd h hcnd5)
        refine lv_iconst (v := 1) hx hb dL_act_305 (by decide) ?_
        refine lv_iload_n hx hb dL_act_306 rfl (lv_at hl 6 rfl) ?_
        refine lv_bipush (v := 9) hx hb dL_act_307 (by decide) ?_
        refine lv_ishr hx hb dL_act_309 ?_
        refine lv_sipush (v := 400) hx hb dL_act_310 (by decide) ?_
        have hPc := hP.sub (ws' := []) [] rfl
        have hDc := hD.sub (ws' := []) [] (by decide) rfl
        have hFc := va_free (wc := []) hD hS hA [] rfl
        refine va_calli (va_runS (As := [.int (v >>> (9 &&& 31)), .int 400]) (rest := [.int 1, .int ((1 : Int32) + (lowV (v >>> (8 &&& 31)) 4)), .int (lowV (v >>> (11 &&& 31)) 4), .ref (ad 0)]) ⟨hx, hb, hml, hown, (dr_words hts s.drawn)⟩ (m_L_low l G q H.size (v >>> (9 &&& 31)) 400 (by decide)) (va_cwS 2 (dr_words hts s.drawn) gL_act_L_low rfl rfl rfl (by decide +kernel) ⟨Nat.le_of_ble_eq_true rfl, Nat.le_of_ble_eq_true rfl⟩) ⟨preW_blind, preW_start (s := s.setDrawn s.drawn) hPc hK hDc (hNF.drawn s.drawn)⟩ rfl rfl hl.1 rfl (lv_room (Nat.le_of_ble_eq_true rfl)) dL_act_313 ⟨(by show _ ≤ 11; omega), (by show _ ≤ 73; omega)⟩) hS (fun q _ h => hFc q h) hFc (fun rl u9 t9 H1 locs ht9 hv9 hw hB9 hz9 hk9 hS => ?_)
        obtain ⟨⟩ := u9
        obtain ⟨hP1, hD1⟩ := hB9
        rw [ht9] at hP1
        obtain ⟨hP, hD⟩ := va_joinQ (wr := [((ad 0), .inr (3, [.ref (ad 1), .ref (ad 2), .int (nI (uN u))])), ((ad 2), aF q 6 (fun j => if j < uN u then some (uO u j) else none)), ((ad 1), .inr (1, [.ref (ad 3), .ref (ad 4), .ref (ad 5), .ref (ad 6), .ref (ad 7), .double (uM u), .int (nI (uT u))])), ((ad 3), aI q 8 (uP u)), ((ad 4), aD q 8 (fun i => FP.i2d (uX u i))), ((ad 5), aD q 16 (fun i => FP.i2d (uA u i))), ((ad 6), aD q 16 (fun i => FP.i2d (uB u i))), ((ad 7), aD q 16 (uF u))]) (w1 := []) hP hD [] [0, 1, 2, 3, 4, 5, 6, 7] rfl rfl (by decide) (by decide) hk9 hFc hP1 hD1
        generalize H1 = H at hP hS ⊢
        have hP : va_P G vwCl ([((ad 0), .inr (3, [.ref (ad 1), .ref (ad 2), .int (nI (uN u))])), ((ad 2), aF q 6 (fun j => if j < uN u then some (uO u j) else none)), ((ad 1), .inr (1, [.ref (ad 3), .ref (ad 4), .ref (ad 5), .ref (ad 6), .ref (ad 7), .double (uM u), .int (nI (uT u))])), ((ad 3), aI q 8 (uP u)), ((ad 4), aD q 8 (fun i => FP.i2d (uX u i))), ((ad 5), aD q 16 (fun i => FP.i2d (uA u i))), ((ad 6), aD q 16 (fun i => FP.i2d (uB u i))), ((ad 7), aD q 16 (uF u))] ++ TW (uN u) (WQ q (uC u))) H := hP
        have hD : va_D A ([((ad 0), .inr (3, [.ref (ad 1), .ref (ad 2), .int (nI (uN u))])), ((ad 2), aF q 6 (fun j => if j < uN u then some (uO u j) else none)), ((ad 1), .inr (1, [.ref (ad 3), .ref (ad 4), .ref (ad 5), .ref (ad 6), .ref (ad 7), .double (uM u), .int (nI (uT u))])), ((ad 3), aI q 8 (uP u)), ((ad 4), aD q 8 (fun i => FP.i2d (uX u i))), ((ad 5), aD q 16 (fun i => FP.i2d (uA u i))), ((ad 6), aD q 16 (fun i => FP.i2d (uB u i))), ((ad 7), aD q 16 (uF u))] ++ TW (uN u) (WQ q (uC u))) := hD
        try dsimp only at hw
        subst hw
        refine lv_iadd hx hb dL_act_316 ?_
        refine lv_topi (fun x117 ex117 => ?_)
        obtain rfl : x117 = ((1 : Int32) + (lowV (v >>> (9 &&& 31)) 400)) := ex117
        have hPc := hP.part (cx := [((ad 0), .inr (3, [.ref (ad 1), .ref (ad 2), .int (nI (uN u))])), ((ad 2), aF q 6 (fun j => if j < uN u then some (uO u j) else none)), ((ad 1), .inr (1, [.ref (ad 3), .ref (ad 4), .ref (ad 5), .ref (ad 6), .ref (ad 7), .double (uM u), .int (nI (uT u))])), ((ad 3), aI q 8 (uP u)), ((ad 4), aD q 8 (fun i => FP.i2d (uX u i))), ((ad 5), aD q 16 (fun i => FP.i2d (uA u i))), ((ad 6), aD q 16 (fun i => FP.i2d (uB u i))), ((ad 7), aD q 16 (uF u))]) [0, 1, 2, 3, 4, 5, 6, 7] rfl
        have hDc := hD.part (cx := [((ad 0), .inr (3, [.ref (ad 1), .ref (ad 2), .int (nI (uN u))])), ((ad 2), aF q 6 (fun j => if j < uN u then some (uO u j) else none)), ((ad 1), .inr (1, [.ref (ad 3), .ref (ad 4), .ref (ad 5), .ref (ad 6), .ref (ad 7), .double (uM u), .int (nI (uT u))])), ((ad 3), aI q 8 (uP u)), ((ad 4), aD q 8 (fun i => FP.i2d (uX u i))), ((ad 5), aD q 16 (fun i => FP.i2d (uA u i))), ((ad 6), aD q 16 (fun i => FP.i2d (uB u i))), ((ad 7), aD q 16 (uF u))]) [0, 1, 2, 3, 4, 5, 6, 7] (by decide) rfl
        have hFc := va_freeP (cx := [((ad 0), .inr (3, [.ref (ad 1), .ref (ad 2), .int (nI (uN u))])), ((ad 2), aF q 6 (fun j => if j < uN u then some (uO u j) else none)), ((ad 1), .inr (1, [.ref (ad 3), .ref (ad 4), .ref (ad 5), .ref (ad 6), .ref (ad 7), .double (uM u), .int (nI (uT u))])), ((ad 3), aI q 8 (uP u)), ((ad 4), aD q 8 (fun i => FP.i2d (uX u i))), ((ad 5), aD q 16 (fun i => FP.i2d (uA u i))), ((ad 6), aD q 16 (fun i => FP.i2d (uB u i))), ((ad 7), aD q 16 (uF u))]) hD hS hA [0, 1, 2, 3, 4, 5, 6, 7] rfl
        refine va_calllD hd0 (swd_run (As := [.ref (ad 0), .int (lowV (v >>> (11 &&& 31)) 4), .int ((1 : Int32) + (lowV (v >>> (8 &&& 31)) 4)), .int ((1 : Int32) + (lowV (v >>> (9 &&& 31)) 400))]) (rest := []) ⟨hx, hb, hml, hown, (dr_words hts s.drawn)⟩ (h_filter hst (lowV (v >>> (11 &&& 31)) 4) ((1 : Int32) + (lowV (v >>> (8 &&& 31)) 4)) ((1 : Int32) + (lowV (v >>> (9 &&& 31)) 400)) G q H.size ad V u hu) (vx_cwSW 4 (dr_words hts s.drawn) gL_act_L_filter rfl rfl rfl (by decide +kernel) ⟨Nat.le_of_ble_eq_true rfl, Nat.le_of_ble_eq_true rfl⟩) ⟨preY_blind, preY_start (s := s.setDrawn s.drawn) hPc hK hDc (hNF.drawn s.drawn) (hNT.drawn s.drawn) (hNC.drawn s.drawn) hS (fun q h => hFc q h)⟩ rfl rfl hl.1 rfl (lv_room (Nat.le_of_ble_eq_true rfl)) dL_act_317 ⟨(by show _ ≤ 11; omega), (by show _ ≤ 73; omega)⟩) hS (fun q _ h => hFc q h) hFc (fun r1 u9 t9 H1 locs ht9 hv99 hw hB9 hz9 hk9 hS du118 hu118 => ?_)
        obtain ⟨u1, rfl⟩ : ∃ z, z = u9 := ⟨_, rfl⟩
        obtain ⟨hP1, hD1⟩ := hB9
        rw [ht9] at hP1
        obtain ⟨hP, hD⟩ := va_joinP (wr := []) (rx := [((ad 0), .inr (3, [.ref (ad 1), .ref (ad 2), .int (nI (uN u1))])), ((ad 2), aF q 6 (fun j => if j < uN u1 then some (uO u1 j) else none)), ((ad 1), .inr (1, [.ref (ad 3), .ref (ad 4), .ref (ad 5), .ref (ad 6), .ref (ad 7), .double (uM u1), .int (nI (uT u1))])), ((ad 3), aI q 8 (uP u1)), ((ad 4), aD q 8 (fun i => FP.i2d (uX u1 i))), ((ad 5), aD q 16 (fun i => FP.i2d (uA u1 i))), ((ad 6), aD q 16 (fun i => FP.i2d (uB u1 i))), ((ad 7), aD q 16 (uF u1))]) (pl1 := TW (uN u1) (WQ q (uC u1))) hP hD [0, 1, 2, 3, 4, 5, 6, 7] [] rfl rfl (by decide) (by decide) hk9 hFc hP1 hD1
        generalize H1 = H at hP hS ⊢
        have hP : va_P G vwCl ([((ad 0), .inr (3, [.ref (ad 1), .ref (ad 2), .int (nI (uN u1))])), ((ad 2), aF q 6 (fun j => if j < uN u1 then some (uO u1 j) else none)), ((ad 1), .inr (1, [.ref (ad 3), .ref (ad 4), .ref (ad 5), .ref (ad 6), .ref (ad 7), .double (uM u1), .int (nI (uT u1))])), ((ad 3), aI q 8 (uP u1)), ((ad 4), aD q 8 (fun i => FP.i2d (uX u1 i))), ((ad 5), aD q 16 (fun i => FP.i2d (uA u1 i))), ((ad 6), aD q 16 (fun i => FP.i2d (uB u1 i))), ((ad 7), aD q 16 (uF u1))] ++ TW (uN u1) (WQ q (uC u1))) H := hP
        have hD : va_D A ([((ad 0), .inr (3, [.ref (ad 1), .ref (ad 2), .int (nI (uN u1))])), ((ad 2), aF q 6 (fun j => if j < uN u1 then some (uO u1 j) else none)), ((ad 1), .inr (1, [.ref (ad 3), .ref (ad 4), .ref (ad 5), .ref (ad 6), .ref (ad 7), .double (uM u1), .int (nI (uT u1))])), ((ad 3), aI q 8 (uP u1)), ((ad 4), aD q 8 (fun i => FP.i2d (uX u1 i))), ((ad 5), aD q 16 (fun i => FP.i2d (uA u1 i))), ((ad 6), aD q 16 (fun i => FP.i2d (uB u1 i))), ((ad 7), aD q 16 (uF u1))] ++ TW (uN u1) (WQ q (uC u1))) := hD
        have hA : vAct v V = vFilter (lowV (v >>> (11 &&& 31)) 4) ((1 : Int32) + (lowV (v >>> (8 &&& 31)) 4)) ((1 : Int32) + (lowV (v >>> (9 &&& 31)) 400)) V := by unfold vAct; rw [if_neg hcnd1]; unfold actE; rw [← hcs]; rw [selV_5]; rw [if_neg hcnd5]
        rw [← hA] at hw
        refine W.widen (k := 11) (n := 73) (Nat.le_of_ble_eq_true rfl) (Nat.le_of_ble_eq_true rfl) ?_
        have hP9 := hP
        have hD9 := hD
        refine W.endD hu118 ?_
        exact W.lret (v := r1) hx hb hr (fun t ht hW => ⟨⟨r1, u1, rfl, hw, by rw [ht]; exact hP9, hD9⟩, hS.F ht⟩) hS.2.2 dL_act_320
    · skip
      refine lv_tableIn (off := 189) (tgt := 321) hx hb dL_act_132 (by decide) (by decide) (by decide) (by decide) ?_
      refine lv_aload_n hx hb dL_act_321 rfl (lv_at hl 5 rfl) ?_
      refine lv_iload_n hx hb dL_act_322 rfl (lv_at hl 3 rfl) ?_
      refine lv_iload_n hx hb dL_act_323 rfl (lv_at hl 4 rfl) ?_
      refine lv_if_eq (tgt := 332) hx hb dL_act_324 (by decide) (fun _ => ?_) (fun h => absurd (by decide) h)
      refine lv_sipush (v := 500) hx hb dL_act_332 (by decide) ?_
      refine lv_iload_n hx hb dL_act_335 rfl (lv_at hl 6 rfl) ?_
      refine lv_bipush (v := 9) hx hb dL_act_336 (by decide) ?_
      refine lv_ishr hx hb dL_act_338 ?_
      refine lv_sipush (v := 500) hx hb dL_act_339 (by decide) ?_
      have hPc := hP.sub (ws' := []) [] rfl
      have hDc := hD.sub (ws' := []) [] (by decide) rfl
      have hFc := va_free (wc := []) hD hS hA [] rfl
      refine va_calli (va_runS (As := [.int (v >>> (9 &&& 31)), .int 500]) (rest := [.int 500, .int (lowV (v >>> (5 &&& 31)) 3), .ref (ad 0)]) ⟨hx, hb, hml, hown, (dr_words hts s.drawn)⟩ (m_L_low l G q H.size (v >>> (9 &&& 31)) 500 (by decide)) (va_cwS 2 (dr_words hts s.drawn) gL_act_L_low rfl rfl rfl (by decide +kernel) ⟨Nat.le_of_ble_eq_true rfl, Nat.le_of_ble_eq_true rfl⟩) ⟨preW_blind, preW_start (s := s.setDrawn s.drawn) hPc hK hDc (hNF.drawn s.drawn)⟩ rfl rfl hl.1 rfl (lv_room (Nat.le_of_ble_eq_true rfl)) dL_act_342 ⟨(by show _ ≤ 11; omega), (by show _ ≤ 73; omega)⟩) hS (fun q _ h => hFc q h) hFc (fun rl u9 t9 H1 locs ht9 hv9 hw hB9 hz9 hk9 hS => ?_)
      obtain ⟨⟩ := u9
      obtain ⟨hP1, hD1⟩ := hB9
      rw [ht9] at hP1
      obtain ⟨hP, hD⟩ := va_joinQ (wr := [((ad 0), .inr (3, [.ref (ad 1), .ref (ad 2), .int (nI (uN u))])), ((ad 2), aF q 6 (fun j => if j < uN u then some (uO u j) else none)), ((ad 1), .inr (1, [.ref (ad 3), .ref (ad 4), .ref (ad 5), .ref (ad 6), .ref (ad 7), .double (uM u), .int (nI (uT u))])), ((ad 3), aI q 8 (uP u)), ((ad 4), aD q 8 (fun i => FP.i2d (uX u i))), ((ad 5), aD q 16 (fun i => FP.i2d (uA u i))), ((ad 6), aD q 16 (fun i => FP.i2d (uB u i))), ((ad 7), aD q 16 (uF u))]) (w1 := []) hP hD [] [0, 1, 2, 3, 4, 5, 6, 7] rfl rfl (by decide) (by decide) hk9 hFc hP1 hD1
      generalize H1 = H at hP hS ⊢
      have hP : va_P G vwCl ([((ad 0), .inr (3, [.ref (ad 1), .ref (ad 2), .int (nI (uN u))])), ((ad 2), aF q 6 (fun j => if j < uN u then some (uO u j) else none)), ((ad 1), .inr (1, [.ref (ad 3), .ref (ad 4), .ref (ad 5), .ref (ad 6), .ref (ad 7), .double (uM u), .int (nI (uT u))])), ((ad 3), aI q 8 (uP u)), ((ad 4), aD q 8 (fun i => FP.i2d (uX u i))), ((ad 5), aD q 16 (fun i => FP.i2d (uA u i))), ((ad 6), aD q 16 (fun i => FP.i2d (uB u i))), ((ad 7), aD q 16 (uF u))] ++ TW (uN u) (WQ q (uC u))) H := hP
      have hD : va_D A ([((ad 0), .inr (3, [.ref (ad 1), .ref (ad 2), .int (nI (uN u))])), ((ad 2), aF q 6 (fun j => if j < uN u then some (uO u j) else none)), ((ad 1), .inr (1, [.ref (ad 3), .ref (ad 4), .ref (ad 5), .ref (ad 6), .ref (ad 7), .double (uM u), .int (nI (uT u))])), ((ad 3), aI q 8 (uP u)), ((ad 4), aD q 8 (fun i => FP.i2d (uX u i))), ((ad 5), aD q 16 (fun i => FP.i2d (uA u i))), ((ad 6), aD q 16 (fun i => FP.i2d (uB u i))), ((ad 7), aD q 16 (uF u))] ++ TW (uN u) (WQ q (uC u))) := hD
      try dsimp only at hw
      subst hw
      refine lv_iadd hx hb dL_act_345 ?_
      refine lv_topi (fun x121 ex121 => ?_)
      obtain rfl : x121 = ((500 : Int32) + (lowV (v >>> (9 &&& 31)) 500)) := ex121
      have hPc := hP.part (cx := [((ad 0), .inr (3, [.ref (ad 1), .ref (ad 2), .int (nI (uN u))])), ((ad 2), aF q 6 (fun j => if j < uN u then some (uO u j) else none)), ((ad 1), .inr (1, [.ref (ad 3), .ref (ad 4), .ref (ad 5), .ref (ad 6), .ref (ad 7), .double (uM u), .int (nI (uT u))])), ((ad 3), aI q 8 (uP u)), ((ad 4), aD q 8 (fun i => FP.i2d (uX u i))), ((ad 5), aD q 16 (fun i => FP.i2d (uA u i))), ((ad 6), aD q 16 (fun i => FP.i2d (uB u i))), ((ad 7), aD q 16 (uF u))]) [0, 1, 2, 3, 4, 5, 6, 7] rfl
      have hDc := hD.part (cx := [((ad 0), .inr (3, [.ref (ad 1), .ref (ad 2), .int (nI (uN u))])), ((ad 2), aF q 6 (fun j => if j < uN u then some (uO u j) else none)), ((ad 1), .inr (1, [.ref (ad 3), .ref (ad 4), .ref (ad 5), .ref (ad 6), .ref (ad 7), .double (uM u), .int (nI (uT u))])), ((ad 3), aI q 8 (uP u)), ((ad 4), aD q 8 (fun i => FP.i2d (uX u i))), ((ad 5), aD q 16 (fun i => FP.i2d (uA u i))), ((ad 6), aD q 16 (fun i => FP.i2d (uB u i))), ((ad 7), aD q 16 (uF u))]) [0, 1, 2, 3, 4, 5, 6, 7] (by decide) rfl
      have hFc := va_freeP (cx := [((ad 0), .inr (3, [.ref (ad 1), .ref (ad 2), .int (nI (uN u))])), ((ad 2), aF q 6 (fun j => if j < uN u then some (uO u j) else none)), ((ad 1), .inr (1, [.ref (ad 3), .ref (ad 4), .ref (ad 5), .ref (ad 6), .ref (ad 7), .double (uM u), .int (nI (uT u))])), ((ad 3), aI q 8 (uP u)), ((ad 4), aD q 8 (fun i => FP.i2d (uX u i))), ((ad 5), aD q 16 (fun i => FP.i2d (uA u i))), ((ad 6), aD q 16 (fun i => FP.i2d (uB u i))), ((ad 7), aD q 16 (uF u))]) hD hS hA [0, 1, 2, 3, 4, 5, 6, 7] rfl
      refine va_calllD hd0 (swd_run (As := [.ref (ad 0), .int (lowV (v >>> (5 &&& 31)) 3), .int ((500 : Int32) + (lowV (v >>> (9 &&& 31)) 500))]) (rest := []) ⟨hx, hb, hml, hown, (dr_words hts s.drawn)⟩ (h_step hst (lowV (v >>> (5 &&& 31)) 3) ((500 : Int32) + (lowV (v >>> (9 &&& 31)) 500)) G q H.size ad V u hu) (vx_cwSW 3 (dr_words hts s.drawn) gL_act_L_step rfl rfl rfl (by decide +kernel) ⟨Nat.le_of_ble_eq_true rfl, Nat.le_of_ble_eq_true rfl⟩) ⟨preY_blind, preY_start (s := s.setDrawn s.drawn) hPc hK hDc (hNF.drawn s.drawn) (hNT.drawn s.drawn) (hNC.drawn s.drawn) hS (fun q h => hFc q h)⟩ rfl rfl hl.1 rfl (lv_room (Nat.le_of_ble_eq_true rfl)) dL_act_346 ⟨(by show _ ≤ 11; omega), (by show _ ≤ 73; omega)⟩) hS (fun q _ h => hFc q h) hFc (fun r1 u9 t9 H1 locs ht9 hv99 hw hB9 hz9 hk9 hS du122 hu122 => ?_)
      obtain ⟨u1, rfl⟩ : ∃ z, z = u9 := ⟨_, rfl⟩
      obtain ⟨hP1, hD1⟩ := hB9
      rw [ht9] at hP1
      obtain ⟨hP, hD⟩ := va_joinP (wr := []) (rx := [((ad 0), .inr (3, [.ref (ad 1), .ref (ad 2), .int (nI (uN u1))])), ((ad 2), aF q 6 (fun j => if j < uN u1 then some (uO u1 j) else none)), ((ad 1), .inr (1, [.ref (ad 3), .ref (ad 4), .ref (ad 5), .ref (ad 6), .ref (ad 7), .double (uM u1), .int (nI (uT u1))])), ((ad 3), aI q 8 (uP u1)), ((ad 4), aD q 8 (fun i => FP.i2d (uX u1 i))), ((ad 5), aD q 16 (fun i => FP.i2d (uA u1 i))), ((ad 6), aD q 16 (fun i => FP.i2d (uB u1 i))), ((ad 7), aD q 16 (uF u1))]) (pl1 := TW (uN u1) (WQ q (uC u1))) hP hD [0, 1, 2, 3, 4, 5, 6, 7] [] rfl rfl (by decide) (by decide) hk9 hFc hP1 hD1
      generalize H1 = H at hP hS ⊢
      have hP : va_P G vwCl ([((ad 0), .inr (3, [.ref (ad 1), .ref (ad 2), .int (nI (uN u1))])), ((ad 2), aF q 6 (fun j => if j < uN u1 then some (uO u1 j) else none)), ((ad 1), .inr (1, [.ref (ad 3), .ref (ad 4), .ref (ad 5), .ref (ad 6), .ref (ad 7), .double (uM u1), .int (nI (uT u1))])), ((ad 3), aI q 8 (uP u1)), ((ad 4), aD q 8 (fun i => FP.i2d (uX u1 i))), ((ad 5), aD q 16 (fun i => FP.i2d (uA u1 i))), ((ad 6), aD q 16 (fun i => FP.i2d (uB u1 i))), ((ad 7), aD q 16 (uF u1))] ++ TW (uN u1) (WQ q (uC u1))) H := hP
      have hD : va_D A ([((ad 0), .inr (3, [.ref (ad 1), .ref (ad 2), .int (nI (uN u1))])), ((ad 2), aF q 6 (fun j => if j < uN u1 then some (uO u1 j) else none)), ((ad 1), .inr (1, [.ref (ad 3), .ref (ad 4), .ref (ad 5), .ref (ad 6), .ref (ad 7), .double (uM u1), .int (nI (uT u1))])), ((ad 3), aI q 8 (uP u1)), ((ad 4), aD q 8 (fun i => FP.i2d (uX u1 i))), ((ad 5), aD q 16 (fun i => FP.i2d (uA u1 i))), ((ad 6), aD q 16 (fun i => FP.i2d (uB u1 i))), ((ad 7), aD q 16 (uF u1))] ++ TW (uN u1) (WQ q (uC u1))) := hD
      have hA : vAct v V = vStep (lowV (v >>> (5 &&& 31)) 3) ((500 : Int32) + (lowV (v >>> (9 &&& 31)) 500)) V := by unfold vAct; rw [if_neg hcnd1]; unfold actE; rw [← hcs]; rw [selV_6]
      rw [← hA] at hw
      refine W.widen (k := 11) (n := 73) (Nat.le_of_ble_eq_true rfl) (Nat.le_of_ble_eq_true rfl) ?_
      have hP9 := hP
      have hD9 := hD
      refine W.endD hu122 ?_
      exact W.lret (v := r1) hx hb hr (fun t ht hW => ⟨⟨r1, u1, rfl, hw, by rw [ht]; exact hP9, hD9⟩, hS.F ht⟩) hS.2.2 dL_act_349
    · skip
      refine lv_tableIn (off := 218) (tgt := 350) hx hb dL_act_132 (by decide) (by decide) (by decide) (by decide) ?_
      refine lv_aload_n hx hb dL_act_350 rfl (lv_at hl 5 rfl) ?_
      refine lv_iload_n hx hb dL_act_351 rfl (lv_at hl 3 rfl) ?_
      refine lv_iload_n hx hb dL_act_352 rfl (lv_at hl 4 rfl) ?_
      refine lv_if_eq (tgt := 361) hx hb dL_act_353 (by decide) (fun _ => ?_) (fun h => absurd (by decide) h)
      refine lv_iload_n hx hb dL_act_361 rfl (lv_at hl 6 rfl) ?_
      refine lv_bipush (v := 9) hx hb dL_act_362 (by decide) ?_
      refine lv_ishr hx hb dL_act_364 ?_
      refine lv_sipush (v := 300) hx hb dL_act_365 (by decide) ?_
      have hPc := hP.sub (ws' := []) [] rfl
      have hDc := hD.sub (ws' := []) [] (by decide) rfl
      have hFc := va_free (wc := []) hD hS hA [] rfl
      refine va_calli (va_runS (As := [.int (v >>> (9 &&& 31)), .int 300]) (rest := [.int (lowV (v >>> (5 &&& 31)) 3), .ref (ad 0)]) ⟨hx, hb, hml, hown, (dr_words hts s.drawn)⟩ (m_L_low l G q H.size (v >>> (9 &&& 31)) 300 (by decide)) (va_cwS 2 (dr_words hts s.drawn) gL_act_L_low rfl rfl rfl (by decide +kernel) ⟨Nat.le_of_ble_eq_true rfl, Nat.le_of_ble_eq_true rfl⟩) ⟨preW_blind, preW_start (s := s.setDrawn s.drawn) hPc hK hDc (hNF.drawn s.drawn)⟩ rfl rfl hl.1 rfl (lv_room (Nat.le_of_ble_eq_true rfl)) dL_act_368 ⟨(by show _ ≤ 11; omega), (by show _ ≤ 73; omega)⟩) hS (fun q _ h => hFc q h) hFc (fun rl u9 t9 H1 locs ht9 hv9 hw hB9 hz9 hk9 hS => ?_)
      obtain ⟨⟩ := u9
      obtain ⟨hP1, hD1⟩ := hB9
      rw [ht9] at hP1
      obtain ⟨hP, hD⟩ := va_joinQ (wr := [((ad 0), .inr (3, [.ref (ad 1), .ref (ad 2), .int (nI (uN u))])), ((ad 2), aF q 6 (fun j => if j < uN u then some (uO u j) else none)), ((ad 1), .inr (1, [.ref (ad 3), .ref (ad 4), .ref (ad 5), .ref (ad 6), .ref (ad 7), .double (uM u), .int (nI (uT u))])), ((ad 3), aI q 8 (uP u)), ((ad 4), aD q 8 (fun i => FP.i2d (uX u i))), ((ad 5), aD q 16 (fun i => FP.i2d (uA u i))), ((ad 6), aD q 16 (fun i => FP.i2d (uB u i))), ((ad 7), aD q 16 (uF u))]) (w1 := []) hP hD [] [0, 1, 2, 3, 4, 5, 6, 7] rfl rfl (by decide) (by decide) hk9 hFc hP1 hD1
      generalize H1 = H at hP hS ⊢
      have hP : va_P G vwCl ([((ad 0), .inr (3, [.ref (ad 1), .ref (ad 2), .int (nI (uN u))])), ((ad 2), aF q 6 (fun j => if j < uN u then some (uO u j) else none)), ((ad 1), .inr (1, [.ref (ad 3), .ref (ad 4), .ref (ad 5), .ref (ad 6), .ref (ad 7), .double (uM u), .int (nI (uT u))])), ((ad 3), aI q 8 (uP u)), ((ad 4), aD q 8 (fun i => FP.i2d (uX u i))), ((ad 5), aD q 16 (fun i => FP.i2d (uA u i))), ((ad 6), aD q 16 (fun i => FP.i2d (uB u i))), ((ad 7), aD q 16 (uF u))] ++ TW (uN u) (WQ q (uC u))) H := hP
      have hD : va_D A ([((ad 0), .inr (3, [.ref (ad 1), .ref (ad 2), .int (nI (uN u))])), ((ad 2), aF q 6 (fun j => if j < uN u then some (uO u j) else none)), ((ad 1), .inr (1, [.ref (ad 3), .ref (ad 4), .ref (ad 5), .ref (ad 6), .ref (ad 7), .double (uM u), .int (nI (uT u))])), ((ad 3), aI q 8 (uP u)), ((ad 4), aD q 8 (fun i => FP.i2d (uX u i))), ((ad 5), aD q 16 (fun i => FP.i2d (uA u i))), ((ad 6), aD q 16 (fun i => FP.i2d (uB u i))), ((ad 7), aD q 16 (uF u))] ++ TW (uN u) (WQ q (uC u))) := hD
      try dsimp only at hw
      subst hw
      refine lv_iload_n hx hb dL_act_371 rfl (lv_at hl 4 rfl) ?_
      refine lv_if_eq (tgt := 381) hx hb dL_act_372 (by decide) (fun _ => ?_) (fun h => absurd (by decide) h)
      refine lv_iload_n hx hb dL_act_381 rfl (lv_at hl 6 rfl) ?_
      refine lv_iconst (v := 4) hx hb dL_act_382 (by decide) ?_
      refine lv_ishr hx hb dL_act_383 ?_
      refine lv_bipush (v := 6) hx hb dL_act_384 (by decide) ?_
      have hPc := hP.sub (ws' := []) [] rfl
      have hDc := hD.sub (ws' := []) [] (by decide) rfl
      have hFc := va_free (wc := []) hD hS hA [] rfl
      refine va_calli (va_runS (As := [.int (v >>> (4 &&& 31)), .int 6]) (rest := [.int (lowV (v >>> (9 &&& 31)) 300), .int (lowV (v >>> (5 &&& 31)) 3), .ref (ad 0)]) ⟨hx, hb, hml, hown, (dr_words hts s.drawn)⟩ (m_L_low l G q H.size (v >>> (4 &&& 31)) 6 (by decide)) (va_cwS 2 (dr_words hts s.drawn) gL_act_L_low rfl rfl rfl (by decide +kernel) ⟨Nat.le_of_ble_eq_true rfl, Nat.le_of_ble_eq_true rfl⟩) ⟨preW_blind, preW_start (s := s.setDrawn s.drawn) hPc hK hDc (hNF.drawn s.drawn)⟩ rfl rfl hl.1 rfl (lv_room (Nat.le_of_ble_eq_true rfl)) dL_act_386 ⟨(by show _ ≤ 11; omega), (by show _ ≤ 73; omega)⟩) hS (fun q _ h => hFc q h) hFc (fun rl u9 t9 H1 locs ht9 hv9 hw hB9 hz9 hk9 hS => ?_)
      obtain ⟨⟩ := u9
      obtain ⟨hP1, hD1⟩ := hB9
      rw [ht9] at hP1
      obtain ⟨hP, hD⟩ := va_joinQ (wr := [((ad 0), .inr (3, [.ref (ad 1), .ref (ad 2), .int (nI (uN u))])), ((ad 2), aF q 6 (fun j => if j < uN u then some (uO u j) else none)), ((ad 1), .inr (1, [.ref (ad 3), .ref (ad 4), .ref (ad 5), .ref (ad 6), .ref (ad 7), .double (uM u), .int (nI (uT u))])), ((ad 3), aI q 8 (uP u)), ((ad 4), aD q 8 (fun i => FP.i2d (uX u i))), ((ad 5), aD q 16 (fun i => FP.i2d (uA u i))), ((ad 6), aD q 16 (fun i => FP.i2d (uB u i))), ((ad 7), aD q 16 (uF u))]) (w1 := []) hP hD [] [0, 1, 2, 3, 4, 5, 6, 7] rfl rfl (by decide) (by decide) hk9 hFc hP1 hD1
      generalize H1 = H at hP hS ⊢
      have hP : va_P G vwCl ([((ad 0), .inr (3, [.ref (ad 1), .ref (ad 2), .int (nI (uN u))])), ((ad 2), aF q 6 (fun j => if j < uN u then some (uO u j) else none)), ((ad 1), .inr (1, [.ref (ad 3), .ref (ad 4), .ref (ad 5), .ref (ad 6), .ref (ad 7), .double (uM u), .int (nI (uT u))])), ((ad 3), aI q 8 (uP u)), ((ad 4), aD q 8 (fun i => FP.i2d (uX u i))), ((ad 5), aD q 16 (fun i => FP.i2d (uA u i))), ((ad 6), aD q 16 (fun i => FP.i2d (uB u i))), ((ad 7), aD q 16 (uF u))] ++ TW (uN u) (WQ q (uC u))) H := hP
      have hD : va_D A ([((ad 0), .inr (3, [.ref (ad 1), .ref (ad 2), .int (nI (uN u))])), ((ad 2), aF q 6 (fun j => if j < uN u then some (uO u j) else none)), ((ad 1), .inr (1, [.ref (ad 3), .ref (ad 4), .ref (ad 5), .ref (ad 6), .ref (ad 7), .double (uM u), .int (nI (uT u))])), ((ad 3), aI q 8 (uP u)), ((ad 4), aD q 8 (fun i => FP.i2d (uX u i))), ((ad 5), aD q 16 (fun i => FP.i2d (uA u i))), ((ad 6), aD q 16 (fun i => FP.i2d (uB u i))), ((ad 7), aD q 16 (uF u))] ++ TW (uN u) (WQ q (uC u))) := hD
      try dsimp only at hw
      subst hw
      have hPc := hP.part (cx := [((ad 0), .inr (3, [.ref (ad 1), .ref (ad 2), .int (nI (uN u))])), ((ad 2), aF q 6 (fun j => if j < uN u then some (uO u j) else none)), ((ad 1), .inr (1, [.ref (ad 3), .ref (ad 4), .ref (ad 5), .ref (ad 6), .ref (ad 7), .double (uM u), .int (nI (uT u))])), ((ad 3), aI q 8 (uP u)), ((ad 4), aD q 8 (fun i => FP.i2d (uX u i))), ((ad 5), aD q 16 (fun i => FP.i2d (uA u i))), ((ad 6), aD q 16 (fun i => FP.i2d (uB u i))), ((ad 7), aD q 16 (uF u))]) [0, 1, 2, 3, 4, 5, 6, 7] rfl
      have hDc := hD.part (cx := [((ad 0), .inr (3, [.ref (ad 1), .ref (ad 2), .int (nI (uN u))])), ((ad 2), aF q 6 (fun j => if j < uN u then some (uO u j) else none)), ((ad 1), .inr (1, [.ref (ad 3), .ref (ad 4), .ref (ad 5), .ref (ad 6), .ref (ad 7), .double (uM u), .int (nI (uT u))])), ((ad 3), aI q 8 (uP u)), ((ad 4), aD q 8 (fun i => FP.i2d (uX u i))), ((ad 5), aD q 16 (fun i => FP.i2d (uA u i))), ((ad 6), aD q 16 (fun i => FP.i2d (uB u i))), ((ad 7), aD q 16 (uF u))]) [0, 1, 2, 3, 4, 5, 6, 7] (by decide) rfl
      have hFc := va_freeP (cx := [((ad 0), .inr (3, [.ref (ad 1), .ref (ad 2), .int (nI (uN u))])), ((ad 2), aF q 6 (fun j => if j < uN u then some (uO u j) else none)), ((ad 1), .inr (1, [.ref (ad 3), .ref (ad 4), .ref (ad 5), .ref (ad 6), .ref (ad 7), .double (uM u), .int (nI (uT u))])), ((ad 3), aI q 8 (uP u)), ((ad 4), aD q 8 (fun i => FP.i2d (uX u i))), ((ad 5), aD q 16 (fun i => FP.i2d (uA u i))), ((ad 6), aD q 16 (fun i => FP.i2d (uB u i))), ((ad 7), aD q 16 (uF u))]) hD hS hA [0, 1, 2, 3, 4, 5, 6, 7] rfl
      refine va_calllD hd0 (swd_run (As := [.ref (ad 0), .int (lowV (v >>> (5 &&& 31)) 3), .int (lowV (v >>> (9 &&& 31)) 300), .int (lowV (v >>> (4 &&& 31)) 6)]) (rest := []) ⟨hx, hb, hml, hown, (dr_words hts s.drawn)⟩ (h_watch hst (lowV (v >>> (5 &&& 31)) 3) (lowV (v >>> (9 &&& 31)) 300) (lowV (v >>> (4 &&& 31)) 6) G q H.size ad V u hu) (vx_cwSW 4 (dr_words hts s.drawn) gL_act_L_watch rfl rfl rfl (by decide +kernel) ⟨Nat.le_of_ble_eq_true rfl, Nat.le_of_ble_eq_true rfl⟩) ⟨preY_blind, preY_start (s := s.setDrawn s.drawn) hPc hK hDc (hNF.drawn s.drawn) (hNT.drawn s.drawn) (hNC.drawn s.drawn) hS (fun q h => hFc q h)⟩ rfl rfl hl.1 rfl (lv_room (Nat.le_of_ble_eq_true rfl)) dL_act_389 ⟨(by show _ ≤ 11; omega), (by show _ ≤ 73; omega)⟩) hS (fun q _ h => hFc q h) hFc (fun r1 u9 t9 H1 locs ht9 hv99 hw hB9 hz9 hk9 hS du127 hu127 => ?_)
      obtain ⟨u1, rfl⟩ : ∃ z, z = u9 := ⟨_, rfl⟩
      obtain ⟨hP1, hD1⟩ := hB9
      rw [ht9] at hP1
      obtain ⟨hP, hD⟩ := va_joinP (wr := []) (rx := [((ad 0), .inr (3, [.ref (ad 1), .ref (ad 2), .int (nI (uN u1))])), ((ad 2), aF q 6 (fun j => if j < uN u1 then some (uO u1 j) else none)), ((ad 1), .inr (1, [.ref (ad 3), .ref (ad 4), .ref (ad 5), .ref (ad 6), .ref (ad 7), .double (uM u1), .int (nI (uT u1))])), ((ad 3), aI q 8 (uP u1)), ((ad 4), aD q 8 (fun i => FP.i2d (uX u1 i))), ((ad 5), aD q 16 (fun i => FP.i2d (uA u1 i))), ((ad 6), aD q 16 (fun i => FP.i2d (uB u1 i))), ((ad 7), aD q 16 (uF u1))]) (pl1 := TW (uN u1) (WQ q (uC u1))) hP hD [0, 1, 2, 3, 4, 5, 6, 7] [] rfl rfl (by decide) (by decide) hk9 hFc hP1 hD1
      generalize H1 = H at hP hS ⊢
      have hP : va_P G vwCl ([((ad 0), .inr (3, [.ref (ad 1), .ref (ad 2), .int (nI (uN u1))])), ((ad 2), aF q 6 (fun j => if j < uN u1 then some (uO u1 j) else none)), ((ad 1), .inr (1, [.ref (ad 3), .ref (ad 4), .ref (ad 5), .ref (ad 6), .ref (ad 7), .double (uM u1), .int (nI (uT u1))])), ((ad 3), aI q 8 (uP u1)), ((ad 4), aD q 8 (fun i => FP.i2d (uX u1 i))), ((ad 5), aD q 16 (fun i => FP.i2d (uA u1 i))), ((ad 6), aD q 16 (fun i => FP.i2d (uB u1 i))), ((ad 7), aD q 16 (uF u1))] ++ TW (uN u1) (WQ q (uC u1))) H := hP
      have hD : va_D A ([((ad 0), .inr (3, [.ref (ad 1), .ref (ad 2), .int (nI (uN u1))])), ((ad 2), aF q 6 (fun j => if j < uN u1 then some (uO u1 j) else none)), ((ad 1), .inr (1, [.ref (ad 3), .ref (ad 4), .ref (ad 5), .ref (ad 6), .ref (ad 7), .double (uM u1), .int (nI (uT u1))])), ((ad 3), aI q 8 (uP u1)), ((ad 4), aD q 8 (fun i => FP.i2d (uX u1 i))), ((ad 5), aD q 16 (fun i => FP.i2d (uA u1 i))), ((ad 6), aD q 16 (fun i => FP.i2d (uB u1 i))), ((ad 7), aD q 16 (uF u1))] ++ TW (uN u1) (WQ q (uC u1))) := hD
      have hA : vAct v V = vWatch (lowV (v >>> (5 &&& 31)) 3) (lowV (v >>> (9 &&& 31)) 300) (lowV (v >>> (4 &&& 31)) 6) V := by unfold vAct; rw [if_neg hcnd1]; unfold actE; rw [← hcs]; rw [selV_7]
      rw [← hA] at hw
      refine W.widen (k := 11) (n := 73) (Nat.le_of_ble_eq_true rfl) (Nat.le_of_ble_eq_true rfl) ?_
      have hP9 := hP
      have hD9 := hD
      refine W.endD hu127 ?_
      exact W.lret (v := r1) hx hb hr (fun t ht hW => ⟨⟨r1, u1, rfl, hw, by rw [ht]; exact hP9, hD9⟩, hS.F ht⟩) hS.2.2 dL_act_392
    · skip
      refine lv_tableIn (off := 261) (tgt := 393) hx hb dL_act_132 (by decide) (by decide) (by decide) (by decide) ?_
      refine lv_iload_n hx hb dL_act_393 rfl (lv_at hl 6 rfl) ?_
      refine lv_bipush (v := 16) hx hb dL_act_394 (by decide) ?_
      refine lv_ishr hx hb dL_act_396 ?_
      refine lv_iconst (v := 3) hx hb dL_act_397 (by decide) ?_
      have hPc := hP.sub (ws' := []) [] rfl
      have hDc := hD.sub (ws' := []) [] (by decide) rfl
      have hFc := va_free (wc := []) hD hS hA [] rfl
      refine va_calli (va_runS (As := [.int (v >>> (16 &&& 31)), .int 3]) (rest := []) ⟨hx, hb, hml, hown, (dr_words hts s.drawn)⟩ (m_L_low l G q H.size (v >>> (16 &&& 31)) 3 (by decide)) (va_cwS 2 (dr_words hts s.drawn) gL_act_L_low rfl rfl rfl (by decide +kernel) ⟨Nat.le_of_ble_eq_true rfl, Nat.le_of_ble_eq_true rfl⟩) ⟨preW_blind, preW_start (s := s.setDrawn s.drawn) hPc hK hDc (hNF.drawn s.drawn)⟩ rfl rfl hl.1 rfl (lv_room (Nat.le_of_ble_eq_true rfl)) dL_act_398 ⟨(by show _ ≤ 11; omega), (by show _ ≤ 73; omega)⟩) hS (fun q _ h => hFc q h) hFc (fun rl u9 t9 H1 locs ht9 hv9 hw hB9 hz9 hk9 hS => ?_)
      obtain ⟨⟩ := u9
      obtain ⟨hP1, hD1⟩ := hB9
      rw [ht9] at hP1
      obtain ⟨hP, hD⟩ := va_joinQ (wr := [((ad 0), .inr (3, [.ref (ad 1), .ref (ad 2), .int (nI (uN u))])), ((ad 2), aF q 6 (fun j => if j < uN u then some (uO u j) else none)), ((ad 1), .inr (1, [.ref (ad 3), .ref (ad 4), .ref (ad 5), .ref (ad 6), .ref (ad 7), .double (uM u), .int (nI (uT u))])), ((ad 3), aI q 8 (uP u)), ((ad 4), aD q 8 (fun i => FP.i2d (uX u i))), ((ad 5), aD q 16 (fun i => FP.i2d (uA u i))), ((ad 6), aD q 16 (fun i => FP.i2d (uB u i))), ((ad 7), aD q 16 (uF u))]) (w1 := []) hP hD [] [0, 1, 2, 3, 4, 5, 6, 7] rfl rfl (by decide) (by decide) hk9 hFc hP1 hD1
      generalize H1 = H at hP hS ⊢
      have hP : va_P G vwCl ([((ad 0), .inr (3, [.ref (ad 1), .ref (ad 2), .int (nI (uN u))])), ((ad 2), aF q 6 (fun j => if j < uN u then some (uO u j) else none)), ((ad 1), .inr (1, [.ref (ad 3), .ref (ad 4), .ref (ad 5), .ref (ad 6), .ref (ad 7), .double (uM u), .int (nI (uT u))])), ((ad 3), aI q 8 (uP u)), ((ad 4), aD q 8 (fun i => FP.i2d (uX u i))), ((ad 5), aD q 16 (fun i => FP.i2d (uA u i))), ((ad 6), aD q 16 (fun i => FP.i2d (uB u i))), ((ad 7), aD q 16 (uF u))] ++ TW (uN u) (WQ q (uC u))) H := hP
      have hD : va_D A ([((ad 0), .inr (3, [.ref (ad 1), .ref (ad 2), .int (nI (uN u))])), ((ad 2), aF q 6 (fun j => if j < uN u then some (uO u j) else none)), ((ad 1), .inr (1, [.ref (ad 3), .ref (ad 4), .ref (ad 5), .ref (ad 6), .ref (ad 7), .double (uM u), .int (nI (uT u))])), ((ad 3), aI q 8 (uP u)), ((ad 4), aD q 8 (fun i => FP.i2d (uX u i))), ((ad 5), aD q 16 (fun i => FP.i2d (uA u i))), ((ad 6), aD q 16 (fun i => FP.i2d (uB u i))), ((ad 7), aD q 16 (uF u))] ++ TW (uN u) (WQ q (uC u))) := hD
      try dsimp only at hw
      subst hw
      by_cases hcnd6 : (lowV (v >>> (16 &&& 31)) 3) = 0
      · skip
        refine lv_if_ne (tgt := 412) hx hb dL_act_401 (by decide) (fun h => absurd hcnd6 h) (fun _ => ?_)
        refine lv_aload_n hx hb dL_act_404 rfl (lv_at hl 5 rfl) ?_
        refine lv_iload_n hx hb dL_act_405 rfl (lv_at hl 3 rfl) ?_
        have hPc := hP.part (cx := [((ad 0), .inr (3, [.ref (ad 1), .ref (ad 2), .int (nI (uN u))])), ((ad 2), aF q 6 (fun j => if j < uN u then some (uO u j) else none)), ((ad 1), .inr (1, [.ref (ad 3), .ref (ad 4), .ref (ad 5), .ref (ad 6), .ref (ad 7), .double (uM u), .int (nI (uT u))])), ((ad 3), aI q 8 (uP u)), ((ad 4), aD q 8 (fun i => FP.i2d (uX u i))), ((ad 5), aD q 16 (fun i => FP.i2d (uA u i))), ((ad 6), aD q 16 (fun i => FP.i2d (uB u i))), ((ad 7), aD q 16 (uF u))]) [0, 1, 2, 3, 4, 5, 6, 7] rfl
        have hDc := hD.part (cx := [((ad 0), .inr (3, [.ref (ad 1), .ref (ad 2), .int (nI (uN u))])), ((ad 2), aF q 6 (fun j => if j < uN u then some (uO u j) else none)), ((ad 1), .inr (1, [.ref (ad 3), .ref (ad 4), .ref (ad 5), .ref (ad 6), .ref (ad 7), .double (uM u), .int (nI (uT u))])), ((ad 3), aI q 8 (uP u)), ((ad 4), aD q 8 (fun i => FP.i2d (uX u i))), ((ad 5), aD q 16 (fun i => FP.i2d (uA u i))), ((ad 6), aD q 16 (fun i => FP.i2d (uB u i))), ((ad 7), aD q 16 (uF u))]) [0, 1, 2, 3, 4, 5, 6, 7] (by decide) rfl
        have hFc := va_freeP (cx := [((ad 0), .inr (3, [.ref (ad 1), .ref (ad 2), .int (nI (uN u))])), ((ad 2), aF q 6 (fun j => if j < uN u then some (uO u j) else none)), ((ad 1), .inr (1, [.ref (ad 3), .ref (ad 4), .ref (ad 5), .ref (ad 6), .ref (ad 7), .double (uM u), .int (nI (uT u))])), ((ad 3), aI q 8 (uP u)), ((ad 4), aD q 8 (fun i => FP.i2d (uX u i))), ((ad 5), aD q 16 (fun i => FP.i2d (uA u i))), ((ad 6), aD q 16 (fun i => FP.i2d (uB u i))), ((ad 7), aD q 16 (uF u))]) hD hS hA [0, 1, 2, 3, 4, 5, 6, 7] rfl
        refine va_calllD hd0 (swd_run (As := [.ref (ad 0), .int (lowV (v >>> (5 &&& 31)) 3)]) (rest := []) ⟨hx, hb, hml, hown, (dr_words hts s.drawn)⟩ (h_begin hst (lowV (v >>> (5 &&& 31)) 3) G q H.size ad V u hu) (vx_cwSW 2 (dr_words hts s.drawn) gL_act_L_begin rfl rfl rfl (by decide +kernel) ⟨Nat.le_of_ble_eq_true rfl, Nat.le_of_ble_eq_true rfl⟩) ⟨preY_blind, preY_start (s := s.setDrawn s.drawn) hPc hK hDc (hNF.drawn s.drawn) (hNT.drawn s.drawn) (hNC.drawn s.drawn) hS (fun q h => hFc q h)⟩ rfl rfl hl.1 rfl (lv_room (Nat.le_of_ble_eq_true rfl)) dL_act_406 ⟨(by show _ ≤ 11; omega), (by show _ ≤ 73; omega)⟩) hS (fun q _ h => hFc q h) hFc (fun r1 u9 t9 H1 locs ht9 hv99 hw hB9 hz9 hk9 hS du130 hu130 => ?_)
        obtain ⟨u1, rfl⟩ : ∃ z, z = u9 := ⟨_, rfl⟩
        obtain ⟨hP1, hD1⟩ := hB9
        rw [ht9] at hP1
        obtain ⟨hP, hD⟩ := va_joinP (wr := []) (rx := [((ad 0), .inr (3, [.ref (ad 1), .ref (ad 2), .int (nI (uN u1))])), ((ad 2), aF q 6 (fun j => if j < uN u1 then some (uO u1 j) else none)), ((ad 1), .inr (1, [.ref (ad 3), .ref (ad 4), .ref (ad 5), .ref (ad 6), .ref (ad 7), .double (uM u1), .int (nI (uT u1))])), ((ad 3), aI q 8 (uP u1)), ((ad 4), aD q 8 (fun i => FP.i2d (uX u1 i))), ((ad 5), aD q 16 (fun i => FP.i2d (uA u1 i))), ((ad 6), aD q 16 (fun i => FP.i2d (uB u1 i))), ((ad 7), aD q 16 (uF u1))]) (pl1 := TW (uN u1) (WQ q (uC u1))) hP hD [0, 1, 2, 3, 4, 5, 6, 7] [] rfl rfl (by decide) (by decide) hk9 hFc hP1 hD1
        generalize H1 = H at hP hS ⊢
        have hP : va_P G vwCl ([((ad 0), .inr (3, [.ref (ad 1), .ref (ad 2), .int (nI (uN u1))])), ((ad 2), aF q 6 (fun j => if j < uN u1 then some (uO u1 j) else none)), ((ad 1), .inr (1, [.ref (ad 3), .ref (ad 4), .ref (ad 5), .ref (ad 6), .ref (ad 7), .double (uM u1), .int (nI (uT u1))])), ((ad 3), aI q 8 (uP u1)), ((ad 4), aD q 8 (fun i => FP.i2d (uX u1 i))), ((ad 5), aD q 16 (fun i => FP.i2d (uA u1 i))), ((ad 6), aD q 16 (fun i => FP.i2d (uB u1 i))), ((ad 7), aD q 16 (uF u1))] ++ TW (uN u1) (WQ q (uC u1))) H := hP
        have hD : va_D A ([((ad 0), .inr (3, [.ref (ad 1), .ref (ad 2), .int (nI (uN u1))])), ((ad 2), aF q 6 (fun j => if j < uN u1 then some (uO u1 j) else none)), ((ad 1), .inr (1, [.ref (ad 3), .ref (ad 4), .ref (ad 5), .ref (ad 6), .ref (ad 7), .double (uM u1), .int (nI (uT u1))])), ((ad 3), aI q 8 (uP u1)), ((ad 4), aD q 8 (fun i => FP.i2d (uX u1 i))), ((ad 5), aD q 16 (fun i => FP.i2d (uA u1 i))), ((ad 6), aD q 16 (fun i => FP.i2d (uB u1 i))), ((ad 7), aD q 16 (uF u1))] ++ TW (uN u1) (WQ q (uC u1))) := hD
        refine lv_goto (tgt := 434) hx hb dL_act_409 (by decide) ?_
        have hA : vAct v V = vBegin (lowV (v >>> (5 &&& 31)) 3) V := by unfold vAct; rw [if_neg hcnd1]; unfold actE; rw [← hcs]; rw [selV_8]; rw [if_pos hcnd6]
        rw [← hA] at hw
        refine W.widen (k := 11) (n := 73) (Nat.le_of_ble_eq_true rfl) (Nat.le_of_ble_eq_true rfl) ?_
        have hP9 := hP
        have hD9 := hD
        refine W.endD hu130 ?_
        exact W.lret (v := r1) hx hb hr (fun t ht hW => ⟨⟨r1, u1, rfl, hw, by rw [ht]; exact hP9, hD9⟩, hS.F ht⟩) hS.2.2 dL_act_434
      · skip
        refine lv_if_ne (tgt := 412) hx hb dL_act_401 (by decide) (fun _ => ?_) (fun h => absurd h hcnd6)
        refine lv_aload_n hx hb dL_act_412 rfl (lv_at hl 5 rfl) ?_
        refine lv_iload_n hx hb dL_act_413 rfl (lv_at hl 3 rfl) ?_
        refine lv_iload_n hx hb dL_act_414 rfl (lv_at hl 4 rfl) ?_
        refine lv_if_eq (tgt := 423) hx hb dL_act_415 (by decide) (fun _ => ?_) (fun h => absurd (by decide) h)
        refine lv_iload_n hx hb dL_act_423 rfl (lv_at hl 6 rfl) ?_
        refine lv_bipush (v := 9) hx hb dL_act_424 (by decide) ?_
        refine lv_ishr hx hb dL_act_426 ?_
        refine lv_iconst (v := 4) hx hb dL_act_427 (by decide) ?_
        have hPc := hP.sub (ws' := []) [] rfl
        have hDc := hD.sub (ws' := []) [] (by decide) rfl
        have hFc := va_free (wc := []) hD hS hA [] rfl
        refine va_calli (va_runS (As := [.int (v >>> (9 &&& 31)), .int 4]) (rest := [.int (lowV (v >>> (5 &&& 31)) 3), .ref (ad 0)]) ⟨hx, hb, hml, hown, (dr_words hts s.drawn)⟩ (m_L_low l G q H.size (v >>> (9 &&& 31)) 4 (by decide)) (va_cwS 2 (dr_words hts s.drawn) gL_act_L_low rfl rfl rfl (by decide +kernel) ⟨Nat.le_of_ble_eq_true rfl, Nat.le_of_ble_eq_true rfl⟩) ⟨preW_blind, preW_start (s := s.setDrawn s.drawn) hPc hK hDc (hNF.drawn s.drawn)⟩ rfl rfl hl.1 rfl (lv_room (Nat.le_of_ble_eq_true rfl)) dL_act_428 ⟨(by show _ ≤ 11; omega), (by show _ ≤ 73; omega)⟩) hS (fun q _ h => hFc q h) hFc (fun rl u9 t9 H1 locs ht9 hv9 hw hB9 hz9 hk9 hS => ?_)
        obtain ⟨⟩ := u9
        obtain ⟨hP1, hD1⟩ := hB9
        rw [ht9] at hP1
        obtain ⟨hP, hD⟩ := va_joinQ (wr := [((ad 0), .inr (3, [.ref (ad 1), .ref (ad 2), .int (nI (uN u))])), ((ad 2), aF q 6 (fun j => if j < uN u then some (uO u j) else none)), ((ad 1), .inr (1, [.ref (ad 3), .ref (ad 4), .ref (ad 5), .ref (ad 6), .ref (ad 7), .double (uM u), .int (nI (uT u))])), ((ad 3), aI q 8 (uP u)), ((ad 4), aD q 8 (fun i => FP.i2d (uX u i))), ((ad 5), aD q 16 (fun i => FP.i2d (uA u i))), ((ad 6), aD q 16 (fun i => FP.i2d (uB u i))), ((ad 7), aD q 16 (uF u))]) (w1 := []) hP hD [] [0, 1, 2, 3, 4, 5, 6, 7] rfl rfl (by decide) (by decide) hk9 hFc hP1 hD1
        generalize H1 = H at hP hS ⊢
        have hP : va_P G vwCl ([((ad 0), .inr (3, [.ref (ad 1), .ref (ad 2), .int (nI (uN u))])), ((ad 2), aF q 6 (fun j => if j < uN u then some (uO u j) else none)), ((ad 1), .inr (1, [.ref (ad 3), .ref (ad 4), .ref (ad 5), .ref (ad 6), .ref (ad 7), .double (uM u), .int (nI (uT u))])), ((ad 3), aI q 8 (uP u)), ((ad 4), aD q 8 (fun i => FP.i2d (uX u i))), ((ad 5), aD q 16 (fun i => FP.i2d (uA u i))), ((ad 6), aD q 16 (fun i => FP.i2d (uB u i))), ((ad 7), aD q 16 (uF u))] ++ TW (uN u) (WQ q (uC u))) H := hP
        have hD : va_D A ([((ad 0), .inr (3, [.ref (ad 1), .ref (ad 2), .int (nI (uN u))])), ((ad 2), aF q 6 (fun j => if j < uN u then some (uO u j) else none)), ((ad 1), .inr (1, [.ref (ad 3), .ref (ad 4), .ref (ad 5), .ref (ad 6), .ref (ad 7), .double (uM u), .int (nI (uT u))])), ((ad 3), aI q 8 (uP u)), ((ad 4), aD q 8 (fun i => FP.i2d (uX u i))), ((ad 5), aD q 16 (fun i => FP.i2d (uA u i))), ((ad 6), aD q 16 (fun i => FP.i2d (uB u i))), ((ad 7), aD q 16 (uF u))] ++ TW (uN u) (WQ q (uC u))) := hD
        try dsimp only at hw
        subst hw
        have hPc := hP.part (cx := [((ad 0), .inr (3, [.ref (ad 1), .ref (ad 2), .int (nI (uN u))])), ((ad 2), aF q 6 (fun j => if j < uN u then some (uO u j) else none)), ((ad 1), .inr (1, [.ref (ad 3), .ref (ad 4), .ref (ad 5), .ref (ad 6), .ref (ad 7), .double (uM u), .int (nI (uT u))])), ((ad 3), aI q 8 (uP u)), ((ad 4), aD q 8 (fun i => FP.i2d (uX u i))), ((ad 5), aD q 16 (fun i => FP.i2d (uA u i))), ((ad 6), aD q 16 (fun i => FP.i2d (uB u i))), ((ad 7), aD q 16 (uF u))]) [0, 1, 2, 3, 4, 5, 6, 7] rfl
        have hDc := hD.part (cx := [((ad 0), .inr (3, [.ref (ad 1), .ref (ad 2), .int (nI (uN u))])), ((ad 2), aF q 6 (fun j => if j < uN u then some (uO u j) else none)), ((ad 1), .inr (1, [.ref (ad 3), .ref (ad 4), .ref (ad 5), .ref (ad 6), .ref (ad 7), .double (uM u), .int (nI (uT u))])), ((ad 3), aI q 8 (uP u)), ((ad 4), aD q 8 (fun i => FP.i2d (uX u i))), ((ad 5), aD q 16 (fun i => FP.i2d (uA u i))), ((ad 6), aD q 16 (fun i => FP.i2d (uB u i))), ((ad 7), aD q 16 (uF u))]) [0, 1, 2, 3, 4, 5, 6, 7] (by decide) rfl
        have hFc := va_freeP (cx := [((ad 0), .inr (3, [.ref (ad 1), .ref (ad 2), .int (nI (uN u))])), ((ad 2), aF q 6 (fun j => if j < uN u then some (uO u j) else none)), ((ad 1), .inr (1, [.ref (ad 3), .ref (ad 4), .ref (ad 5), .ref (ad 6), .ref (ad 7), .double (uM u), .int (nI (uT u))])), ((ad 3), aI q 8 (uP u)), ((ad 4), aD q 8 (fun i => FP.i2d (uX u i))), ((ad 5), aD q 16 (fun i => FP.i2d (uA u i))), ((ad 6), aD q 16 (fun i => FP.i2d (uB u i))), ((ad 7), aD q 16 (uF u))]) hD hS hA [0, 1, 2, 3, 4, 5, 6, 7] rfl
        refine va_calllD hd0 (swd_run (As := [.ref (ad 0), .int (lowV (v >>> (5 &&& 31)) 3), .int (lowV (v >>> (9 &&& 31)) 4)]) (rest := []) ⟨hx, hb, hml, hown, (dr_words hts s.drawn)⟩ (h_count hst (lowV (v >>> (5 &&& 31)) 3) (lowV (v >>> (9 &&& 31)) 4) G q H.size ad V u hu) (vx_cwSW 3 (dr_words hts s.drawn) gL_act_L_count rfl rfl rfl (by decide +kernel) ⟨Nat.le_of_ble_eq_true rfl, Nat.le_of_ble_eq_true rfl⟩) ⟨preY_blind, preY_start (s := s.setDrawn s.drawn) hPc hK hDc (hNF.drawn s.drawn) (hNT.drawn s.drawn) (hNC.drawn s.drawn) hS (fun q h => hFc q h)⟩ rfl rfl hl.1 rfl (lv_room (Nat.le_of_ble_eq_true rfl)) dL_act_431 ⟨(by show _ ≤ 11; omega), (by show _ ≤ 73; omega)⟩) hS (fun q _ h => hFc q h) hFc (fun r1 u9 t9 H1 locs ht9 hv99 hw hB9 hz9 hk9 hS du134 hu134 => ?_)
        obtain ⟨u1, rfl⟩ : ∃ z, z = u9 := ⟨_, rfl⟩
        obtain ⟨hP1, hD1⟩ := hB9
        rw [ht9] at hP1
        obtain ⟨hP, hD⟩ := va_joinP (wr := []) (rx := [((ad 0), .inr (3, [.ref (ad 1), .ref (ad 2), .int (nI (uN u1))])), ((ad 2), aF q 6 (fun j => if j < uN u1 then some (uO u1 j) else none)), ((ad 1), .inr (1, [.ref (ad 3), .ref (ad 4), .ref (ad 5), .ref (ad 6), .ref (ad 7), .double (uM u1), .int (nI (uT u1))])), ((ad 3), aI q 8 (uP u1)), ((ad 4), aD q 8 (fun i => FP.i2d (uX u1 i))), ((ad 5), aD q 16 (fun i => FP.i2d (uA u1 i))), ((ad 6), aD q 16 (fun i => FP.i2d (uB u1 i))), ((ad 7), aD q 16 (uF u1))]) (pl1 := TW (uN u1) (WQ q (uC u1))) hP hD [0, 1, 2, 3, 4, 5, 6, 7] [] rfl rfl (by decide) (by decide) hk9 hFc hP1 hD1
        generalize H1 = H at hP hS ⊢
        have hP : va_P G vwCl ([((ad 0), .inr (3, [.ref (ad 1), .ref (ad 2), .int (nI (uN u1))])), ((ad 2), aF q 6 (fun j => if j < uN u1 then some (uO u1 j) else none)), ((ad 1), .inr (1, [.ref (ad 3), .ref (ad 4), .ref (ad 5), .ref (ad 6), .ref (ad 7), .double (uM u1), .int (nI (uT u1))])), ((ad 3), aI q 8 (uP u1)), ((ad 4), aD q 8 (fun i => FP.i2d (uX u1 i))), ((ad 5), aD q 16 (fun i => FP.i2d (uA u1 i))), ((ad 6), aD q 16 (fun i => FP.i2d (uB u1 i))), ((ad 7), aD q 16 (uF u1))] ++ TW (uN u1) (WQ q (uC u1))) H := hP
        have hD : va_D A ([((ad 0), .inr (3, [.ref (ad 1), .ref (ad 2), .int (nI (uN u1))])), ((ad 2), aF q 6 (fun j => if j < uN u1 then some (uO u1 j) else none)), ((ad 1), .inr (1, [.ref (ad 3), .ref (ad 4), .ref (ad 5), .ref (ad 6), .ref (ad 7), .double (uM u1), .int (nI (uT u1))])), ((ad 3), aI q 8 (uP u1)), ((ad 4), aD q 8 (fun i => FP.i2d (uX u1 i))), ((ad 5), aD q 16 (fun i => FP.i2d (uA u1 i))), ((ad 6), aD q 16 (fun i => FP.i2d (uB u1 i))), ((ad 7), aD q 16 (uF u1))] ++ TW (uN u1) (WQ q (uC u1))) := hD
        have hA : vAct v V = vCount (lowV (v >>> (5 &&& 31)) 3) (lowV (v >>> (9 &&& 31)) 4) V := by unfold vAct; rw [if_neg hcnd1]; unfold actE; rw [← hcs]; rw [selV_8]; rw [if_neg hcnd6]
        rw [← hA] at hw
        refine W.widen (k := 11) (n := 73) (Nat.le_of_ble_eq_true rfl) (Nat.le_of_ble_eq_true rfl) ?_
        have hP9 := hP
        have hD9 := hD
        refine W.endD hu134 ?_
        exact W.lret (v := r1) hx hb hr (fun t ht hW => ⟨⟨r1, u1, rfl, hw, by rw [ht]; exact hP9, hD9⟩, hS.F ht⟩) hS.2.2 dL_act_434
    · skip
      refine lv_tableIn (off := 303) (tgt := 435) hx hb dL_act_132 (by decide) (by decide) (by decide) (by decide) ?_
      refine lv_aload_n hx hb dL_act_435 rfl (lv_at hl 5 rfl) ?_
      refine lv_iload hx hb dL_act_436 (lv_at hl 1 rfl) ?_
      refine lv_iload_n hx hb dL_act_438 rfl (lv_at hl 4 rfl) ?_
      refine lv_if_eq (tgt := 448) hx hb dL_act_439 (by decide) (fun _ => ?_) (fun h => absurd (by decide) h)
      refine lv_iload_n hx hb dL_act_448 rfl (lv_at hl 6 rfl) ?_
      refine lv_bipush (v := 17) hx hb dL_act_449 (by decide) ?_
      refine lv_ishr hx hb dL_act_451 ?_
      refine lv_iconst (v := 3) hx hb dL_act_452 (by decide) ?_
      have hPc := hP.sub (ws' := []) [] rfl
      have hDc := hD.sub (ws' := []) [] (by decide) rfl
      have hFc := va_free (wc := []) hD hS hA [] rfl
      refine va_calli (va_runS (As := [.int (v >>> (17 &&& 31)), .int 3]) (rest := [.int ((lowV (v >>> (9 &&& 31)) 900) - 450), .ref (ad 0)]) ⟨hx, hb, hml, hown, (dr_words hts s.drawn)⟩ (m_L_low l G q H.size (v >>> (17 &&& 31)) 3 (by decide)) (va_cwS 2 (dr_words hts s.drawn) gL_act_L_low rfl rfl rfl (by decide +kernel) ⟨Nat.le_of_ble_eq_true rfl, Nat.le_of_ble_eq_true rfl⟩) ⟨preW_blind, preW_start (s := s.setDrawn s.drawn) hPc hK hDc (hNF.drawn s.drawn)⟩ rfl rfl hl.1 rfl (lv_room (Nat.le_of_ble_eq_true rfl)) dL_act_453 ⟨(by show _ ≤ 11; omega), (by show _ ≤ 73; omega)⟩) hS (fun q _ h => hFc q h) hFc (fun rl u9 t9 H1 locs ht9 hv9 hw hB9 hz9 hk9 hS => ?_)
      obtain ⟨⟩ := u9
      obtain ⟨hP1, hD1⟩ := hB9
      rw [ht9] at hP1
      obtain ⟨hP, hD⟩ := va_joinQ (wr := [((ad 0), .inr (3, [.ref (ad 1), .ref (ad 2), .int (nI (uN u))])), ((ad 2), aF q 6 (fun j => if j < uN u then some (uO u j) else none)), ((ad 1), .inr (1, [.ref (ad 3), .ref (ad 4), .ref (ad 5), .ref (ad 6), .ref (ad 7), .double (uM u), .int (nI (uT u))])), ((ad 3), aI q 8 (uP u)), ((ad 4), aD q 8 (fun i => FP.i2d (uX u i))), ((ad 5), aD q 16 (fun i => FP.i2d (uA u i))), ((ad 6), aD q 16 (fun i => FP.i2d (uB u i))), ((ad 7), aD q 16 (uF u))]) (w1 := []) hP hD [] [0, 1, 2, 3, 4, 5, 6, 7] rfl rfl (by decide) (by decide) hk9 hFc hP1 hD1
      generalize H1 = H at hP hS ⊢
      have hP : va_P G vwCl ([((ad 0), .inr (3, [.ref (ad 1), .ref (ad 2), .int (nI (uN u))])), ((ad 2), aF q 6 (fun j => if j < uN u then some (uO u j) else none)), ((ad 1), .inr (1, [.ref (ad 3), .ref (ad 4), .ref (ad 5), .ref (ad 6), .ref (ad 7), .double (uM u), .int (nI (uT u))])), ((ad 3), aI q 8 (uP u)), ((ad 4), aD q 8 (fun i => FP.i2d (uX u i))), ((ad 5), aD q 16 (fun i => FP.i2d (uA u i))), ((ad 6), aD q 16 (fun i => FP.i2d (uB u i))), ((ad 7), aD q 16 (uF u))] ++ TW (uN u) (WQ q (uC u))) H := hP
      have hD : va_D A ([((ad 0), .inr (3, [.ref (ad 1), .ref (ad 2), .int (nI (uN u))])), ((ad 2), aF q 6 (fun j => if j < uN u then some (uO u j) else none)), ((ad 1), .inr (1, [.ref (ad 3), .ref (ad 4), .ref (ad 5), .ref (ad 6), .ref (ad 7), .double (uM u), .int (nI (uT u))])), ((ad 3), aI q 8 (uP u)), ((ad 4), aD q 8 (fun i => FP.i2d (uX u i))), ((ad 5), aD q 16 (fun i => FP.i2d (uA u i))), ((ad 6), aD q 16 (fun i => FP.i2d (uB u i))), ((ad 7), aD q 16 (uF u))] ++ TW (uN u) (WQ q (uC u))) := hD
      try dsimp only at hw
      subst hw
      by_cases hcnd7 : (lowV (v >>> (17 &&& 31)) 3) = 0
      · skip
        refine lv_if_ne (tgt := 475) hx hb dL_act_456 (by decide) (fun h => absurd hcnd7 h) (fun _ => ?_)
        refine lv_iload_n hx hb dL_act_459 rfl (lv_at hl 6 rfl) ?_
        refine lv_iconst (v := 4) hx hb dL_act_460 (by decide) ?_
        refine lv_ishr hx hb dL_act_461 ?_
        refine lv_sipush (v := 400) hx hb dL_act_462 (by decide) ?_
        have hPc := hP.sub (ws' := []) [] rfl
        have hDc := hD.sub (ws' := []) [] (by decide) rfl
        have hFc := va_free (wc := []) hD hS hA [] rfl
        refine va_calli (va_runS (As := [.int (v >>> (4 &&& 31)), .int 400]) (rest := [.int ((lowV (v >>> (9 &&& 31)) 900) - 450), .ref (ad 0)]) ⟨hx, hb, hml, hown, (dr_words hts s.drawn)⟩ (m_L_low l G q H.size (v >>> (4 &&& 31)) 400 (by decide)) (va_cwS 2 (dr_words hts s.drawn) gL_act_L_low rfl rfl rfl (by decide +kernel) ⟨Nat.le_of_ble_eq_true rfl, Nat.le_of_ble_eq_true rfl⟩) ⟨preW_blind, preW_start (s := s.setDrawn s.drawn) hPc hK hDc (hNF.drawn s.drawn)⟩ rfl rfl hl.1 rfl (lv_room (Nat.le_of_ble_eq_true rfl)) dL_act_465 ⟨(by show _ ≤ 11; omega), (by show _ ≤ 73; omega)⟩) hS (fun q _ h => hFc q h) hFc (fun rl u9 t9 H1 locs ht9 hv9 hw hB9 hz9 hk9 hS => ?_)
        obtain ⟨⟩ := u9
        obtain ⟨hP1, hD1⟩ := hB9
        rw [ht9] at hP1
        obtain ⟨hP, hD⟩ := va_joinQ (wr := [((ad 0), .inr (3, [.ref (ad 1), .ref (ad 2), .int (nI (uN u))])), ((ad 2), aF q 6 (fun j => if j < uN u then some (uO u j) else none)), ((ad 1), .inr (1, [.ref (ad 3), .ref (ad 4), .ref (ad 5), .ref (ad 6), .ref (ad 7), .double (uM u), .int (nI (uT u))])), ((ad 3), aI q 8 (uP u)), ((ad 4), aD q 8 (fun i => FP.i2d (uX u i))), ((ad 5), aD q 16 (fun i => FP.i2d (uA u i))), ((ad 6), aD q 16 (fun i => FP.i2d (uB u i))), ((ad 7), aD q 16 (uF u))]) (w1 := []) hP hD [] [0, 1, 2, 3, 4, 5, 6, 7] rfl rfl (by decide) (by decide) hk9 hFc hP1 hD1
        generalize H1 = H at hP hS ⊢
        have hP : va_P G vwCl ([((ad 0), .inr (3, [.ref (ad 1), .ref (ad 2), .int (nI (uN u))])), ((ad 2), aF q 6 (fun j => if j < uN u then some (uO u j) else none)), ((ad 1), .inr (1, [.ref (ad 3), .ref (ad 4), .ref (ad 5), .ref (ad 6), .ref (ad 7), .double (uM u), .int (nI (uT u))])), ((ad 3), aI q 8 (uP u)), ((ad 4), aD q 8 (fun i => FP.i2d (uX u i))), ((ad 5), aD q 16 (fun i => FP.i2d (uA u i))), ((ad 6), aD q 16 (fun i => FP.i2d (uB u i))), ((ad 7), aD q 16 (uF u))] ++ TW (uN u) (WQ q (uC u))) H := hP
        have hD : va_D A ([((ad 0), .inr (3, [.ref (ad 1), .ref (ad 2), .int (nI (uN u))])), ((ad 2), aF q 6 (fun j => if j < uN u then some (uO u j) else none)), ((ad 1), .inr (1, [.ref (ad 3), .ref (ad 4), .ref (ad 5), .ref (ad 6), .ref (ad 7), .double (uM u), .int (nI (uT u))])), ((ad 3), aI q 8 (uP u)), ((ad 4), aD q 8 (fun i => FP.i2d (uX u i))), ((ad 5), aD q 16 (fun i => FP.i2d (uA u i))), ((ad 6), aD q 16 (fun i => FP.i2d (uB u i))), ((ad 7), aD q 16 (uF u))] ++ TW (uN u) (WQ q (uC u))) := hD
        try dsimp only at hw
        subst hw
        refine lv_sipush (v := 200) hx hb dL_act_468 (by decide) ?_
        refine lv_isub hx hb dL_act_471 ?_
        refine lv_topi (fun x139 ex139 => ?_)
        obtain rfl : x139 = ((lowV (v >>> (4 &&& 31)) 400) - 200) := ex139
        refine lv_goto (tgt := 476) hx hb dL_act_472 (by decide) ?_
        have hPc := hP.part (cx := [((ad 0), .inr (3, [.ref (ad 1), .ref (ad 2), .int (nI (uN u))])), ((ad 2), aF q 6 (fun j => if j < uN u then some (uO u j) else none)), ((ad 1), .inr (1, [.ref (ad 3), .ref (ad 4), .ref (ad 5), .ref (ad 6), .ref (ad 7), .double (uM u), .int (nI (uT u))])), ((ad 3), aI q 8 (uP u)), ((ad 4), aD q 8 (fun i => FP.i2d (uX u i))), ((ad 5), aD q 16 (fun i => FP.i2d (uA u i))), ((ad 6), aD q 16 (fun i => FP.i2d (uB u i))), ((ad 7), aD q 16 (uF u))]) [0, 1, 2, 3, 4, 5, 6, 7] rfl
        have hDc := hD.part (cx := [((ad 0), .inr (3, [.ref (ad 1), .ref (ad 2), .int (nI (uN u))])), ((ad 2), aF q 6 (fun j => if j < uN u then some (uO u j) else none)), ((ad 1), .inr (1, [.ref (ad 3), .ref (ad 4), .ref (ad 5), .ref (ad 6), .ref (ad 7), .double (uM u), .int (nI (uT u))])), ((ad 3), aI q 8 (uP u)), ((ad 4), aD q 8 (fun i => FP.i2d (uX u i))), ((ad 5), aD q 16 (fun i => FP.i2d (uA u i))), ((ad 6), aD q 16 (fun i => FP.i2d (uB u i))), ((ad 7), aD q 16 (uF u))]) [0, 1, 2, 3, 4, 5, 6, 7] (by decide) rfl
        have hFc := va_freeP (cx := [((ad 0), .inr (3, [.ref (ad 1), .ref (ad 2), .int (nI (uN u))])), ((ad 2), aF q 6 (fun j => if j < uN u then some (uO u j) else none)), ((ad 1), .inr (1, [.ref (ad 3), .ref (ad 4), .ref (ad 5), .ref (ad 6), .ref (ad 7), .double (uM u), .int (nI (uT u))])), ((ad 3), aI q 8 (uP u)), ((ad 4), aD q 8 (fun i => FP.i2d (uX u i))), ((ad 5), aD q 16 (fun i => FP.i2d (uA u i))), ((ad 6), aD q 16 (fun i => FP.i2d (uB u i))), ((ad 7), aD q 16 (uF u))]) hD hS hA [0, 1, 2, 3, 4, 5, 6, 7] rfl
        refine va_calllD hd0 (swd_run (As := [.ref (ad 0), .int ((lowV (v >>> (9 &&& 31)) 900) - 450), .int ((lowV (v >>> (4 &&& 31)) 400) - 200)]) (rest := []) ⟨hx, hb, hml, hown, (dr_words hts s.drawn)⟩ (h_feed hst ((lowV (v >>> (9 &&& 31)) 900) - 450) ((lowV (v >>> (4 &&& 31)) 400) - 200) G q H.size ad V u hu) (vx_cwSW 3 (dr_words hts s.drawn) gL_act_L_feed rfl rfl rfl (by decide +kernel) ⟨Nat.le_of_ble_eq_true rfl, Nat.le_of_ble_eq_true rfl⟩) ⟨preY_blind, preY_start (s := s.setDrawn s.drawn) hPc hK hDc (hNF.drawn s.drawn) (hNT.drawn s.drawn) (hNC.drawn s.drawn) hS (fun q h => hFc q h)⟩ rfl rfl hl.1 rfl (lv_room (Nat.le_of_ble_eq_true rfl)) dL_act_476 ⟨(by show _ ≤ 11; omega), (by show _ ≤ 73; omega)⟩) hS (fun q _ h => hFc q h) hFc (fun r1 u9 t9 H1 locs ht9 hv99 hw hB9 hz9 hk9 hS du140 hu140 => ?_)
        obtain ⟨u1, rfl⟩ : ∃ z, z = u9 := ⟨_, rfl⟩
        obtain ⟨hP1, hD1⟩ := hB9
        rw [ht9] at hP1
        obtain ⟨hP, hD⟩ := va_joinP (wr := []) (rx := [((ad 0), .inr (3, [.ref (ad 1), .ref (ad 2), .int (nI (uN u1))])), ((ad 2), aF q 6 (fun j => if j < uN u1 then some (uO u1 j) else none)), ((ad 1), .inr (1, [.ref (ad 3), .ref (ad 4), .ref (ad 5), .ref (ad 6), .ref (ad 7), .double (uM u1), .int (nI (uT u1))])), ((ad 3), aI q 8 (uP u1)), ((ad 4), aD q 8 (fun i => FP.i2d (uX u1 i))), ((ad 5), aD q 16 (fun i => FP.i2d (uA u1 i))), ((ad 6), aD q 16 (fun i => FP.i2d (uB u1 i))), ((ad 7), aD q 16 (uF u1))]) (pl1 := TW (uN u1) (WQ q (uC u1))) hP hD [0, 1, 2, 3, 4, 5, 6, 7] [] rfl rfl (by decide) (by decide) hk9 hFc hP1 hD1
        generalize H1 = H at hP hS ⊢
        have hP : va_P G vwCl ([((ad 0), .inr (3, [.ref (ad 1), .ref (ad 2), .int (nI (uN u1))])), ((ad 2), aF q 6 (fun j => if j < uN u1 then some (uO u1 j) else none)), ((ad 1), .inr (1, [.ref (ad 3), .ref (ad 4), .ref (ad 5), .ref (ad 6), .ref (ad 7), .double (uM u1), .int (nI (uT u1))])), ((ad 3), aI q 8 (uP u1)), ((ad 4), aD q 8 (fun i => FP.i2d (uX u1 i))), ((ad 5), aD q 16 (fun i => FP.i2d (uA u1 i))), ((ad 6), aD q 16 (fun i => FP.i2d (uB u1 i))), ((ad 7), aD q 16 (uF u1))] ++ TW (uN u1) (WQ q (uC u1))) H := hP
        have hD : va_D A ([((ad 0), .inr (3, [.ref (ad 1), .ref (ad 2), .int (nI (uN u1))])), ((ad 2), aF q 6 (fun j => if j < uN u1 then some (uO u1 j) else none)), ((ad 1), .inr (1, [.ref (ad 3), .ref (ad 4), .ref (ad 5), .ref (ad 6), .ref (ad 7), .double (uM u1), .int (nI (uT u1))])), ((ad 3), aI q 8 (uP u1)), ((ad 4), aD q 8 (fun i => FP.i2d (uX u1 i))), ((ad 5), aD q 16 (fun i => FP.i2d (uA u1 i))), ((ad 6), aD q 16 (fun i => FP.i2d (uB u1 i))), ((ad 7), aD q 16 (uF u1))] ++ TW (uN u1) (WQ q (uC u1))) := hD
        have hA : vAct v V = vFeed ((lowV (v >>> (9 &&& 31)) 900) - 450) ((lowV (v >>> (4 &&& 31)) 400) - 200) V := by unfold vAct; rw [if_neg hcnd1]; unfold actE; rw [← hcs]; rw [selV_9]; rw [if_pos hcnd7]
        rw [← hA] at hw
        refine W.widen (k := 11) (n := 73) (Nat.le_of_ble_eq_true rfl) (Nat.le_of_ble_eq_true rfl) ?_
        have hP9 := hP
        have hD9 := hD
        refine W.endD hu140 ?_
        exact W.lret (v := r1) hx hb hr (fun t ht hW => ⟨⟨r1, u1, rfl, hw, by rw [ht]; exact hP9, hD9⟩, hS.F ht⟩) hS.2.2 dL_act_479
      · skip
        refine lv_if_ne (tgt := 475) hx hb dL_act_456 (by decide) (fun _ => ?_) (fun h => absurd h hcnd7)
        refine lv_iconst (v := 0) hx hb dL_act_475 (by decide) ?_
        have hPc := hP.part (cx := [((ad 0), .inr (3, [.ref (ad 1), .ref (ad 2), .int (nI (uN u))])), ((ad 2), aF q 6 (fun j => if j < uN u then some (uO u j) else none)), ((ad 1), .inr (1, [.ref (ad 3), .ref (ad 4), .ref (ad 5), .ref (ad 6), .ref (ad 7), .double (uM u), .int (nI (uT u))])), ((ad 3), aI q 8 (uP u)), ((ad 4), aD q 8 (fun i => FP.i2d (uX u i))), ((ad 5), aD q 16 (fun i => FP.i2d (uA u i))), ((ad 6), aD q 16 (fun i => FP.i2d (uB u i))), ((ad 7), aD q 16 (uF u))]) [0, 1, 2, 3, 4, 5, 6, 7] rfl
        have hDc := hD.part (cx := [((ad 0), .inr (3, [.ref (ad 1), .ref (ad 2), .int (nI (uN u))])), ((ad 2), aF q 6 (fun j => if j < uN u then some (uO u j) else none)), ((ad 1), .inr (1, [.ref (ad 3), .ref (ad 4), .ref (ad 5), .ref (ad 6), .ref (ad 7), .double (uM u), .int (nI (uT u))])), ((ad 3), aI q 8 (uP u)), ((ad 4), aD q 8 (fun i => FP.i2d (uX u i))), ((ad 5), aD q 16 (fun i => FP.i2d (uA u i))), ((ad 6), aD q 16 (fun i => FP.i2d (uB u i))), ((ad 7), aD q 16 (uF u))]) [0, 1, 2, 3, 4, 5, 6, 7] (by decide) rfl
        have hFc := va_freeP (cx := [((ad 0), .inr (3, [.ref (ad 1), .ref (ad 2), .int (nI (uN u))])), ((ad 2), aF q 6 (fun j => if j < uN u then some (uO u j) else none)), ((ad 1), .inr (1, [.ref (ad 3), .ref (ad 4), .ref (ad 5), .ref (ad 6), .ref (ad 7), .double (uM u), .int (nI (uT u))])), ((ad 3), aI q 8 (uP u)), ((ad 4), aD q 8 (fun i => FP.i2d (uX u i))), ((ad 5), aD q 16 (fun i => FP.i2d (uA u i))), ((ad 6), aD q 16 (fun i => FP.i2d (uB u i))), ((ad 7), aD q 16 (uF u))]) hD hS hA [0, 1, 2, 3, 4, 5, 6, 7] rfl
        refine va_calllD hd0 (swd_run (As := [.ref (ad 0), .int ((lowV (v >>> (9 &&& 31)) 900) - 450), .int 0]) (rest := []) ⟨hx, hb, hml, hown, (dr_words hts s.drawn)⟩ (h_feed hst ((lowV (v >>> (9 &&& 31)) 900) - 450) 0 G q H.size ad V u hu) (vx_cwSW 3 (dr_words hts s.drawn) gL_act_L_feed rfl rfl rfl (by decide +kernel) ⟨Nat.le_of_ble_eq_true rfl, Nat.le_of_ble_eq_true rfl⟩) ⟨preY_blind, preY_start (s := s.setDrawn s.drawn) hPc hK hDc (hNF.drawn s.drawn) (hNT.drawn s.drawn) (hNC.drawn s.drawn) hS (fun q h => hFc q h)⟩ rfl rfl hl.1 rfl (lv_room (Nat.le_of_ble_eq_true rfl)) dL_act_476 ⟨(by show _ ≤ 11; omega), (by show _ ≤ 73; omega)⟩) hS (fun q _ h => hFc q h) hFc (fun r1 u9 t9 H1 locs ht9 hv99 hw hB9 hz9 hk9 hS du142 hu142 => ?_)
        obtain ⟨u1, rfl⟩ : ∃ z, z = u9 := ⟨_, rfl⟩
        obtain ⟨hP1, hD1⟩ := hB9
        rw [ht9] at hP1
        obtain ⟨hP, hD⟩ := va_joinP (wr := []) (rx := [((ad 0), .inr (3, [.ref (ad 1), .ref (ad 2), .int (nI (uN u1))])), ((ad 2), aF q 6 (fun j => if j < uN u1 then some (uO u1 j) else none)), ((ad 1), .inr (1, [.ref (ad 3), .ref (ad 4), .ref (ad 5), .ref (ad 6), .ref (ad 7), .double (uM u1), .int (nI (uT u1))])), ((ad 3), aI q 8 (uP u1)), ((ad 4), aD q 8 (fun i => FP.i2d (uX u1 i))), ((ad 5), aD q 16 (fun i => FP.i2d (uA u1 i))), ((ad 6), aD q 16 (fun i => FP.i2d (uB u1 i))), ((ad 7), aD q 16 (uF u1))]) (pl1 := TW (uN u1) (WQ q (uC u1))) hP hD [0, 1, 2, 3, 4, 5, 6, 7] [] rfl rfl (by decide) (by decide) hk9 hFc hP1 hD1
        generalize H1 = H at hP hS ⊢
        have hP : va_P G vwCl ([((ad 0), .inr (3, [.ref (ad 1), .ref (ad 2), .int (nI (uN u1))])), ((ad 2), aF q 6 (fun j => if j < uN u1 then some (uO u1 j) else none)), ((ad 1), .inr (1, [.ref (ad 3), .ref (ad 4), .ref (ad 5), .ref (ad 6), .ref (ad 7), .double (uM u1), .int (nI (uT u1))])), ((ad 3), aI q 8 (uP u1)), ((ad 4), aD q 8 (fun i => FP.i2d (uX u1 i))), ((ad 5), aD q 16 (fun i => FP.i2d (uA u1 i))), ((ad 6), aD q 16 (fun i => FP.i2d (uB u1 i))), ((ad 7), aD q 16 (uF u1))] ++ TW (uN u1) (WQ q (uC u1))) H := hP
        have hD : va_D A ([((ad 0), .inr (3, [.ref (ad 1), .ref (ad 2), .int (nI (uN u1))])), ((ad 2), aF q 6 (fun j => if j < uN u1 then some (uO u1 j) else none)), ((ad 1), .inr (1, [.ref (ad 3), .ref (ad 4), .ref (ad 5), .ref (ad 6), .ref (ad 7), .double (uM u1), .int (nI (uT u1))])), ((ad 3), aI q 8 (uP u1)), ((ad 4), aD q 8 (fun i => FP.i2d (uX u1 i))), ((ad 5), aD q 16 (fun i => FP.i2d (uA u1 i))), ((ad 6), aD q 16 (fun i => FP.i2d (uB u1 i))), ((ad 7), aD q 16 (uF u1))] ++ TW (uN u1) (WQ q (uC u1))) := hD
        have hA : vAct v V = vFeed ((lowV (v >>> (9 &&& 31)) 900) - 450) 0 V := by unfold vAct; rw [if_neg hcnd1]; unfold actE; rw [← hcs]; rw [selV_9]; rw [if_neg hcnd7]
        rw [← hA] at hw
        refine W.widen (k := 11) (n := 73) (Nat.le_of_ble_eq_true rfl) (Nat.le_of_ble_eq_true rfl) ?_
        have hP9 := hP
        have hD9 := hD
        refine W.endD hu142 ?_
        exact W.lret (v := r1) hx hb hr (fun t ht hW => ⟨⟨r1, u1, rfl, hw, by rw [ht]; exact hP9, hD9⟩, hS.F ht⟩) hS.2.2 dL_act_479
    · skip
      refine lv_tableIn (off := 303) (tgt := 435) hx hb dL_act_132 (by decide) (by decide) (by decide) (by decide) ?_
      refine lv_aload_n hx hb dL_act_435 rfl (lv_at hl 5 rfl) ?_
      refine lv_iload hx hb dL_act_436 (lv_at hl 1 rfl) ?_
      refine lv_iload_n hx hb dL_act_438 rfl (lv_at hl 4 rfl) ?_
      refine lv_if_eq (tgt := 448) hx hb dL_act_439 (by decide) (fun _ => ?_) (fun h => absurd (by decide) h)
      refine lv_iload_n hx hb dL_act_448 rfl (lv_at hl 6 rfl) ?_
      refine lv_bipush (v := 17) hx hb dL_act_449 (by decide) ?_
      refine lv_ishr hx hb dL_act_451 ?_
      refine lv_iconst (v := 3) hx hb dL_act_452 (by decide) ?_
      have hPc := hP.sub (ws' := []) [] rfl
      have hDc := hD.sub (ws' := []) [] (by decide) rfl
      have hFc := va_free (wc := []) hD hS hA [] rfl
      refine va_calli (va_runS (As := [.int (v >>> (17 &&& 31)), .int 3]) (rest := [.int ((lowV (v >>> (9 &&& 31)) 900) - 450), .ref (ad 0)]) ⟨hx, hb, hml, hown, (dr_words hts s.drawn)⟩ (m_L_low l G q H.size (v >>> (17 &&& 31)) 3 (by decide)) (va_cwS 2 (dr_words hts s.drawn) gL_act_L_low rfl rfl rfl (by decide +kernel) ⟨Nat.le_of_ble_eq_true rfl, Nat.le_of_ble_eq_true rfl⟩) ⟨preW_blind, preW_start (s := s.setDrawn s.drawn) hPc hK hDc (hNF.drawn s.drawn)⟩ rfl rfl hl.1 rfl (lv_room (Nat.le_of_ble_eq_true rfl)) dL_act_453 ⟨(by show _ ≤ 11; omega), (by show _ ≤ 73; omega)⟩) hS (fun q _ h => hFc q h) hFc (fun rl u9 t9 H1 locs ht9 hv9 hw hB9 hz9 hk9 hS => ?_)
      obtain ⟨⟩ := u9
      obtain ⟨hP1, hD1⟩ := hB9
      rw [ht9] at hP1
      obtain ⟨hP, hD⟩ := va_joinQ (wr := [((ad 0), .inr (3, [.ref (ad 1), .ref (ad 2), .int (nI (uN u))])), ((ad 2), aF q 6 (fun j => if j < uN u then some (uO u j) else none)), ((ad 1), .inr (1, [.ref (ad 3), .ref (ad 4), .ref (ad 5), .ref (ad 6), .ref (ad 7), .double (uM u), .int (nI (uT u))])), ((ad 3), aI q 8 (uP u)), ((ad 4), aD q 8 (fun i => FP.i2d (uX u i))), ((ad 5), aD q 16 (fun i => FP.i2d (uA u i))), ((ad 6), aD q 16 (fun i => FP.i2d (uB u i))), ((ad 7), aD q 16 (uF u))]) (w1 := []) hP hD [] [0, 1, 2, 3, 4, 5, 6, 7] rfl rfl (by decide) (by decide) hk9 hFc hP1 hD1
      generalize H1 = H at hP hS ⊢
      have hP : va_P G vwCl ([((ad 0), .inr (3, [.ref (ad 1), .ref (ad 2), .int (nI (uN u))])), ((ad 2), aF q 6 (fun j => if j < uN u then some (uO u j) else none)), ((ad 1), .inr (1, [.ref (ad 3), .ref (ad 4), .ref (ad 5), .ref (ad 6), .ref (ad 7), .double (uM u), .int (nI (uT u))])), ((ad 3), aI q 8 (uP u)), ((ad 4), aD q 8 (fun i => FP.i2d (uX u i))), ((ad 5), aD q 16 (fun i => FP.i2d (uA u i))), ((ad 6), aD q 16 (fun i => FP.i2d (uB u i))), ((ad 7), aD q 16 (uF u))] ++ TW (uN u) (WQ q (uC u))) H := hP
      have hD : va_D A ([((ad 0), .inr (3, [.ref (ad 1), .ref (ad 2), .int (nI (uN u))])), ((ad 2), aF q 6 (fun j => if j < uN u then some (uO u j) else none)), ((ad 1), .inr (1, [.ref (ad 3), .ref (ad 4), .ref (ad 5), .ref (ad 6), .ref (ad 7), .double (uM u), .int (nI (uT u))])), ((ad 3), aI q 8 (uP u)), ((ad 4), aD q 8 (fun i => FP.i2d (uX u i))), ((ad 5), aD q 16 (fun i => FP.i2d (uA u i))), ((ad 6), aD q 16 (fun i => FP.i2d (uB u i))), ((ad 7), aD q 16 (uF u))] ++ TW (uN u) (WQ q (uC u))) := hD
      try dsimp only at hw
      subst hw
      by_cases hcnd8 : (lowV (v >>> (17 &&& 31)) 3) = 0
      · skip
        refine lv_if_ne (tgt := 475) hx hb dL_act_456 (by decide) (fun h => absurd hcnd8 h) (fun _ => ?_)
        refine lv_iload_n hx hb dL_act_459 rfl (lv_at hl 6 rfl) ?_
        refine lv_iconst (v := 4) hx hb dL_act_460 (by decide) ?_
        refine lv_ishr hx hb dL_act_461 ?_
        refine lv_sipush (v := 400) hx hb dL_act_462 (by decide) ?_
        have hPc := hP.sub (ws' := []) [] rfl
        have hDc := hD.sub (ws' := []) [] (by decide) rfl
        have hFc := va_free (wc := []) hD hS hA [] rfl
        refine va_calli (va_runS (As := [.int (v >>> (4 &&& 31)), .int 400]) (rest := [.int ((lowV (v >>> (9 &&& 31)) 900) - 450), .ref (ad 0)]) ⟨hx, hb, hml, hown, (dr_words hts s.drawn)⟩ (m_L_low l G q H.size (v >>> (4 &&& 31)) 400 (by decide)) (va_cwS 2 (dr_words hts s.drawn) gL_act_L_low rfl rfl rfl (by decide +kernel) ⟨Nat.le_of_ble_eq_true rfl, Nat.le_of_ble_eq_true rfl⟩) ⟨preW_blind, preW_start (s := s.setDrawn s.drawn) hPc hK hDc (hNF.drawn s.drawn)⟩ rfl rfl hl.1 rfl (lv_room (Nat.le_of_ble_eq_true rfl)) dL_act_465 ⟨(by show _ ≤ 11; omega), (by show _ ≤ 73; omega)⟩) hS (fun q _ h => hFc q h) hFc (fun rl u9 t9 H1 locs ht9 hv9 hw hB9 hz9 hk9 hS => ?_)
        obtain ⟨⟩ := u9
        obtain ⟨hP1, hD1⟩ := hB9
        rw [ht9] at hP1
        obtain ⟨hP, hD⟩ := va_joinQ (wr := [((ad 0), .inr (3, [.ref (ad 1), .ref (ad 2), .int (nI (uN u))])), ((ad 2), aF q 6 (fun j => if j < uN u then some (uO u j) else none)), ((ad 1), .inr (1, [.ref (ad 3), .ref (ad 4), .ref (ad 5), .ref (ad 6), .ref (ad 7), .double (uM u), .int (nI (uT u))])), ((ad 3), aI q 8 (uP u)), ((ad 4), aD q 8 (fun i => FP.i2d (uX u i))), ((ad 5), aD q 16 (fun i => FP.i2d (uA u i))), ((ad 6), aD q 16 (fun i => FP.i2d (uB u i))), ((ad 7), aD q 16 (uF u))]) (w1 := []) hP hD [] [0, 1, 2, 3, 4, 5, 6, 7] rfl rfl (by decide) (by decide) hk9 hFc hP1 hD1
        generalize H1 = H at hP hS ⊢
        have hP : va_P G vwCl ([((ad 0), .inr (3, [.ref (ad 1), .ref (ad 2), .int (nI (uN u))])), ((ad 2), aF q 6 (fun j => if j < uN u then some (uO u j) else none)), ((ad 1), .inr (1, [.ref (ad 3), .ref (ad 4), .ref (ad 5), .ref (ad 6), .ref (ad 7), .double (uM u), .int (nI (uT u))])), ((ad 3), aI q 8 (uP u)), ((ad 4), aD q 8 (fun i => FP.i2d (uX u i))), ((ad 5), aD q 16 (fun i => FP.i2d (uA u i))), ((ad 6), aD q 16 (fun i => FP.i2d (uB u i))), ((ad 7), aD q 16 (uF u))] ++ TW (uN u) (WQ q (uC u))) H := hP
        have hD : va_D A ([((ad 0), .inr (3, [.ref (ad 1), .ref (ad 2), .int (nI (uN u))])), ((ad 2), aF q 6 (fun j => if j < uN u then some (uO u j) else none)), ((ad 1), .inr (1, [.ref (ad 3), .ref (ad 4), .ref (ad 5), .ref (ad 6), .ref (ad 7), .double (uM u), .int (nI (uT u))])), ((ad 3), aI q 8 (uP u)), ((ad 4), aD q 8 (fun i => FP.i2d (uX u i))), ((ad 5), aD q 16 (fun i => FP.i2d (uA u i))), ((ad 6), aD q 16 (fun i => FP.i2d (uB u i))), ((ad 7), aD q 16 (uF u))] ++ TW (uN u) (WQ q (uC u))) := hD
        try dsimp only at hw
        subst hw
        refine lv_sipush (v := 200) hx hb dL_act_468 (by decide) ?_
        refine lv_isub hx hb dL_act_471 ?_
        refine lv_topi (fun x147 ex147 => ?_)
        obtain rfl : x147 = ((lowV (v >>> (4 &&& 31)) 400) - 200) := ex147
        refine lv_goto (tgt := 476) hx hb dL_act_472 (by decide) ?_
        have hPc := hP.part (cx := [((ad 0), .inr (3, [.ref (ad 1), .ref (ad 2), .int (nI (uN u))])), ((ad 2), aF q 6 (fun j => if j < uN u then some (uO u j) else none)), ((ad 1), .inr (1, [.ref (ad 3), .ref (ad 4), .ref (ad 5), .ref (ad 6), .ref (ad 7), .double (uM u), .int (nI (uT u))])), ((ad 3), aI q 8 (uP u)), ((ad 4), aD q 8 (fun i => FP.i2d (uX u i))), ((ad 5), aD q 16 (fun i => FP.i2d (uA u i))), ((ad 6), aD q 16 (fun i => FP.i2d (uB u i))), ((ad 7), aD q 16 (uF u))]) [0, 1, 2, 3, 4, 5, 6, 7] rfl
        have hDc := hD.part (cx := [((ad 0), .inr (3, [.ref (ad 1), .ref (ad 2), .int (nI (uN u))])), ((ad 2), aF q 6 (fun j => if j < uN u then some (uO u j) else none)), ((ad 1), .inr (1, [.ref (ad 3), .ref (ad 4), .ref (ad 5), .ref (ad 6), .ref (ad 7), .double (uM u), .int (nI (uT u))])), ((ad 3), aI q 8 (uP u)), ((ad 4), aD q 8 (fun i => FP.i2d (uX u i))), ((ad 5), aD q 16 (fun i => FP.i2d (uA u i))), ((ad 6), aD q 16 (fun i => FP.i2d (uB u i))), ((ad 7), aD q 16 (uF u))]) [0, 1, 2, 3, 4, 5, 6, 7] (by decide) rfl
        have hFc := va_freeP (cx := [((ad 0), .inr (3, [.ref (ad 1), .ref (ad 2), .int (nI (uN u))])), ((ad 2), aF q 6 (fun j => if j < uN u then some (uO u j) else none)), ((ad 1), .inr (1, [.ref (ad 3), .ref (ad 4), .ref (ad 5), .ref (ad 6), .ref (ad 7), .double (uM u), .int (nI (uT u))])), ((ad 3), aI q 8 (uP u)), ((ad 4), aD q 8 (fun i => FP.i2d (uX u i))), ((ad 5), aD q 16 (fun i => FP.i2d (uA u i))), ((ad 6), aD q 16 (fun i => FP.i2d (uB u i))), ((ad 7), aD q 16 (uF u))]) hD hS hA [0, 1, 2, 3, 4, 5, 6, 7] rfl
        refine va_calllD hd0 (swd_run (As := [.ref (ad 0), .int ((lowV (v >>> (9 &&& 31)) 900) - 450), .int ((lowV (v >>> (4 &&& 31)) 400) - 200)]) (rest := []) ⟨hx, hb, hml, hown, (dr_words hts s.drawn)⟩ (h_feed hst ((lowV (v >>> (9 &&& 31)) 900) - 450) ((lowV (v >>> (4 &&& 31)) 400) - 200) G q H.size ad V u hu) (vx_cwSW 3 (dr_words hts s.drawn) gL_act_L_feed rfl rfl rfl (by decide +kernel) ⟨Nat.le_of_ble_eq_true rfl, Nat.le_of_ble_eq_true rfl⟩) ⟨preY_blind, preY_start (s := s.setDrawn s.drawn) hPc hK hDc (hNF.drawn s.drawn) (hNT.drawn s.drawn) (hNC.drawn s.drawn) hS (fun q h => hFc q h)⟩ rfl rfl hl.1 rfl (lv_room (Nat.le_of_ble_eq_true rfl)) dL_act_476 ⟨(by show _ ≤ 11; omega), (by show _ ≤ 73; omega)⟩) hS (fun q _ h => hFc q h) hFc (fun r1 u9 t9 H1 locs ht9 hv99 hw hB9 hz9 hk9 hS du148 hu148 => ?_)
        obtain ⟨u1, rfl⟩ : ∃ z, z = u9 := ⟨_, rfl⟩
        obtain ⟨hP1, hD1⟩ := hB9
        rw [ht9] at hP1
        obtain ⟨hP, hD⟩ := va_joinP (wr := []) (rx := [((ad 0), .inr (3, [.ref (ad 1), .ref (ad 2), .int (nI (uN u1))])), ((ad 2), aF q 6 (fun j => if j < uN u1 then some (uO u1 j) else none)), ((ad 1), .inr (1, [.ref (ad 3), .ref (ad 4), .ref (ad 5), .ref (ad 6), .ref (ad 7), .double (uM u1), .int (nI (uT u1))])), ((ad 3), aI q 8 (uP u1)), ((ad 4), aD q 8 (fun i => FP.i2d (uX u1 i))), ((ad 5), aD q 16 (fun i => FP.i2d (uA u1 i))), ((ad 6), aD q 16 (fun i => FP.i2d (uB u1 i))), ((ad 7), aD q 16 (uF u1))]) (pl1 := TW (uN u1) (WQ q (uC u1))) hP hD [0, 1, 2, 3, 4, 5, 6, 7] [] rfl rfl (by decide) (by decide) hk9 hFc hP1 hD1
        generalize H1 = H at hP hS ⊢
        have hP : va_P G vwCl ([((ad 0), .inr (3, [.ref (ad 1), .ref (ad 2), .int (nI (uN u1))])), ((ad 2), aF q 6 (fun j => if j < uN u1 then some (uO u1 j) else none)), ((ad 1), .inr (1, [.ref (ad 3), .ref (ad 4), .ref (ad 5), .ref (ad 6), .ref (ad 7), .double (uM u1), .int (nI (uT u1))])), ((ad 3), aI q 8 (uP u1)), ((ad 4), aD q 8 (fun i => FP.i2d (uX u1 i))), ((ad 5), aD q 16 (fun i => FP.i2d (uA u1 i))), ((ad 6), aD q 16 (fun i => FP.i2d (uB u1 i))), ((ad 7), aD q 16 (uF u1))] ++ TW (uN u1) (WQ q (uC u1))) H := hP
        have hD : va_D A ([((ad 0), .inr (3, [.ref (ad 1), .ref (ad 2), .int (nI (uN u1))])), ((ad 2), aF q 6 (fun j => if j < uN u1 then some (uO u1 j) else none)), ((ad 1), .inr (1, [.ref (ad 3), .ref (ad 4), .ref (ad 5), .ref (ad 6), .ref (ad 7), .double (uM u1), .int (nI (uT u1))])), ((ad 3), aI q 8 (uP u1)), ((ad 4), aD q 8 (fun i => FP.i2d (uX u1 i))), ((ad 5), aD q 16 (fun i => FP.i2d (uA u1 i))), ((ad 6), aD q 16 (fun i => FP.i2d (uB u1 i))), ((ad 7), aD q 16 (uF u1))] ++ TW (uN u1) (WQ q (uC u1))) := hD
        have hA : vAct v V = vFeed ((lowV (v >>> (9 &&& 31)) 900) - 450) ((lowV (v >>> (4 &&& 31)) 400) - 200) V := by unfold vAct; rw [if_neg hcnd1]; unfold actE; rw [← hcs]; rw [selV_10]; rw [if_pos hcnd8]
        rw [← hA] at hw
        refine W.widen (k := 11) (n := 73) (Nat.le_of_ble_eq_true rfl) (Nat.le_of_ble_eq_true rfl) ?_
        have hP9 := hP
        have hD9 := hD
        refine W.endD hu148 ?_
        exact W.lret (v := r1) hx hb hr (fun t ht hW => ⟨⟨r1, u1, rfl, hw, by rw [ht]; exact hP9, hD9⟩, hS.F ht⟩) hS.2.2 dL_act_479
      · skip
        refine lv_if_ne (tgt := 475) hx hb dL_act_456 (by decide) (fun _ => ?_) (fun h => absurd h hcnd8)
        refine lv_iconst (v := 0) hx hb dL_act_475 (by decide) ?_
        have hPc := hP.part (cx := [((ad 0), .inr (3, [.ref (ad 1), .ref (ad 2), .int (nI (uN u))])), ((ad 2), aF q 6 (fun j => if j < uN u then some (uO u j) else none)), ((ad 1), .inr (1, [.ref (ad 3), .ref (ad 4), .ref (ad 5), .ref (ad 6), .ref (ad 7), .double (uM u), .int (nI (uT u))])), ((ad 3), aI q 8 (uP u)), ((ad 4), aD q 8 (fun i => FP.i2d (uX u i))), ((ad 5), aD q 16 (fun i => FP.i2d (uA u i))), ((ad 6), aD q 16 (fun i => FP.i2d (uB u i))), ((ad 7), aD q 16 (uF u))]) [0, 1, 2, 3, 4, 5, 6, 7] rfl
        have hDc := hD.part (cx := [((ad 0), .inr (3, [.ref (ad 1), .ref (ad 2), .int (nI (uN u))])), ((ad 2), aF q 6 (fun j => if j < uN u then some (uO u j) else none)), ((ad 1), .inr (1, [.ref (ad 3), .ref (ad 4), .ref (ad 5), .ref (ad 6), .ref (ad 7), .double (uM u), .int (nI (uT u))])), ((ad 3), aI q 8 (uP u)), ((ad 4), aD q 8 (fun i => FP.i2d (uX u i))), ((ad 5), aD q 16 (fun i => FP.i2d (uA u i))), ((ad 6), aD q 16 (fun i => FP.i2d (uB u i))), ((ad 7), aD q 16 (uF u))]) [0, 1, 2, 3, 4, 5, 6, 7] (by decide) rfl
        have hFc := va_freeP (cx := [((ad 0), .inr (3, [.ref (ad 1), .ref (ad 2), .int (nI (uN u))])), ((ad 2), aF q 6 (fun j => if j < uN u then some (uO u j) else none)), ((ad 1), .inr (1, [.ref (ad 3), .ref (ad 4), .ref (ad 5), .ref (ad 6), .ref (ad 7), .double (uM u), .int (nI (uT u))])), ((ad 3), aI q 8 (uP u)), ((ad 4), aD q 8 (fun i => FP.i2d (uX u i))), ((ad 5), aD q 16 (fun i => FP.i2d (uA u i))), ((ad 6), aD q 16 (fun i => FP.i2d (uB u i))), ((ad 7), aD q 16 (uF u))]) hD hS hA [0, 1, 2, 3, 4, 5, 6, 7] rfl
        refine va_calllD hd0 (swd_run (As := [.ref (ad 0), .int ((lowV (v >>> (9 &&& 31)) 900) - 450), .int 0]) (rest := []) ⟨hx, hb, hml, hown, (dr_words hts s.drawn)⟩ (h_feed hst ((lowV (v >>> (9 &&& 31)) 900) - 450) 0 G q H.size ad V u hu) (vx_cwSW 3 (dr_words hts s.drawn) gL_act_L_feed rfl rfl rfl (by decide +kernel) ⟨Nat.le_of_ble_eq_true rfl, Nat.le_of_ble_eq_true rfl⟩) ⟨preY_blind, preY_start (s := s.setDrawn s.drawn) hPc hK hDc (hNF.drawn s.drawn) (hNT.drawn s.drawn) (hNC.drawn s.drawn) hS (fun q h => hFc q h)⟩ rfl rfl hl.1 rfl (lv_room (Nat.le_of_ble_eq_true rfl)) dL_act_476 ⟨(by show _ ≤ 11; omega), (by show _ ≤ 73; omega)⟩) hS (fun q _ h => hFc q h) hFc (fun r1 u9 t9 H1 locs ht9 hv99 hw hB9 hz9 hk9 hS du150 hu150 => ?_)
        obtain ⟨u1, rfl⟩ : ∃ z, z = u9 := ⟨_, rfl⟩
        obtain ⟨hP1, hD1⟩ := hB9
        rw [ht9] at hP1
        obtain ⟨hP, hD⟩ := va_joinP (wr := []) (rx := [((ad 0), .inr (3, [.ref (ad 1), .ref (ad 2), .int (nI (uN u1))])), ((ad 2), aF q 6 (fun j => if j < uN u1 then some (uO u1 j) else none)), ((ad 1), .inr (1, [.ref (ad 3), .ref (ad 4), .ref (ad 5), .ref (ad 6), .ref (ad 7), .double (uM u1), .int (nI (uT u1))])), ((ad 3), aI q 8 (uP u1)), ((ad 4), aD q 8 (fun i => FP.i2d (uX u1 i))), ((ad 5), aD q 16 (fun i => FP.i2d (uA u1 i))), ((ad 6), aD q 16 (fun i => FP.i2d (uB u1 i))), ((ad 7), aD q 16 (uF u1))]) (pl1 := TW (uN u1) (WQ q (uC u1))) hP hD [0, 1, 2, 3, 4, 5, 6, 7] [] rfl rfl (by decide) (by decide) hk9 hFc hP1 hD1
        generalize H1 = H at hP hS ⊢
        have hP : va_P G vwCl ([((ad 0), .inr (3, [.ref (ad 1), .ref (ad 2), .int (nI (uN u1))])), ((ad 2), aF q 6 (fun j => if j < uN u1 then some (uO u1 j) else none)), ((ad 1), .inr (1, [.ref (ad 3), .ref (ad 4), .ref (ad 5), .ref (ad 6), .ref (ad 7), .double (uM u1), .int (nI (uT u1))])), ((ad 3), aI q 8 (uP u1)), ((ad 4), aD q 8 (fun i => FP.i2d (uX u1 i))), ((ad 5), aD q 16 (fun i => FP.i2d (uA u1 i))), ((ad 6), aD q 16 (fun i => FP.i2d (uB u1 i))), ((ad 7), aD q 16 (uF u1))] ++ TW (uN u1) (WQ q (uC u1))) H := hP
        have hD : va_D A ([((ad 0), .inr (3, [.ref (ad 1), .ref (ad 2), .int (nI (uN u1))])), ((ad 2), aF q 6 (fun j => if j < uN u1 then some (uO u1 j) else none)), ((ad 1), .inr (1, [.ref (ad 3), .ref (ad 4), .ref (ad 5), .ref (ad 6), .ref (ad 7), .double (uM u1), .int (nI (uT u1))])), ((ad 3), aI q 8 (uP u1)), ((ad 4), aD q 8 (fun i => FP.i2d (uX u1 i))), ((ad 5), aD q 16 (fun i => FP.i2d (uA u1 i))), ((ad 6), aD q 16 (fun i => FP.i2d (uB u1 i))), ((ad 7), aD q 16 (uF u1))] ++ TW (uN u1) (WQ q (uC u1))) := hD
        have hA : vAct v V = vFeed ((lowV (v >>> (9 &&& 31)) 900) - 450) 0 V := by unfold vAct; rw [if_neg hcnd1]; unfold actE; rw [← hcs]; rw [selV_10]; rw [if_neg hcnd8]
        rw [← hA] at hw
        refine W.widen (k := 11) (n := 73) (Nat.le_of_ble_eq_true rfl) (Nat.le_of_ble_eq_true rfl) ?_
        have hP9 := hP
        have hD9 := hD
        refine W.endD hu150 ?_
        exact W.lret (v := r1) hx hb hr (fun t ht hW => ⟨⟨r1, u1, rfl, hw, by rw [ht]; exact hP9, hD9⟩, hS.F ht⟩) hS.2.2 dL_act_479
    · skip
      refine lv_tableIn (off := 303) (tgt := 435) hx hb dL_act_132 (by decide) (by decide) (by decide) (by decide) ?_
      refine lv_aload_n hx hb dL_act_435 rfl (lv_at hl 5 rfl) ?_
      refine lv_iload hx hb dL_act_436 (lv_at hl 1 rfl) ?_
      refine lv_iload_n hx hb dL_act_438 rfl (lv_at hl 4 rfl) ?_
      refine lv_if_eq (tgt := 448) hx hb dL_act_439 (by decide) (fun _ => ?_) (fun h => absurd (by decide) h)
      refine lv_iload_n hx hb dL_act_448 rfl (lv_at hl 6 rfl) ?_
      refine lv_bipush (v := 17) hx hb dL_act_449 (by decide) ?_
      refine lv_ishr hx hb dL_act_451 ?_
      refine lv_iconst (v := 3) hx hb dL_act_452 (by decide) ?_
      have hPc := hP.sub (ws' := []) [] rfl
      have hDc := hD.sub (ws' := []) [] (by decide) rfl
      have hFc := va_free (wc := []) hD hS hA [] rfl
      refine va_calli (va_runS (As := [.int (v >>> (17 &&& 31)), .int 3]) (rest := [.int ((lowV (v >>> (9 &&& 31)) 900) - 450), .ref (ad 0)]) ⟨hx, hb, hml, hown, (dr_words hts s.drawn)⟩ (m_L_low l G q H.size (v >>> (17 &&& 31)) 3 (by decide)) (va_cwS 2 (dr_words hts s.drawn) gL_act_L_low rfl rfl rfl (by decide +kernel) ⟨Nat.le_of_ble_eq_true rfl, Nat.le_of_ble_eq_true rfl⟩) ⟨preW_blind, preW_start (s := s.setDrawn s.drawn) hPc hK hDc (hNF.drawn s.drawn)⟩ rfl rfl hl.1 rfl (lv_room (Nat.le_of_ble_eq_true rfl)) dL_act_453 ⟨(by show _ ≤ 11; omega), (by show _ ≤ 73; omega)⟩) hS (fun q _ h => hFc q h) hFc (fun rl u9 t9 H1 locs ht9 hv9 hw hB9 hz9 hk9 hS => ?_)
      obtain ⟨⟩ := u9
      obtain ⟨hP1, hD1⟩ := hB9
      rw [ht9] at hP1
      obtain ⟨hP, hD⟩ := va_joinQ (wr := [((ad 0), .inr (3, [.ref (ad 1), .ref (ad 2), .int (nI (uN u))])), ((ad 2), aF q 6 (fun j => if j < uN u then some (uO u j) else none)), ((ad 1), .inr (1, [.ref (ad 3), .ref (ad 4), .ref (ad 5), .ref (ad 6), .ref (ad 7), .double (uM u), .int (nI (uT u))])), ((ad 3), aI q 8 (uP u)), ((ad 4), aD q 8 (fun i => FP.i2d (uX u i))), ((ad 5), aD q 16 (fun i => FP.i2d (uA u i))), ((ad 6), aD q 16 (fun i => FP.i2d (uB u i))), ((ad 7), aD q 16 (uF u))]) (w1 := []) hP hD [] [0, 1, 2, 3, 4, 5, 6, 7] rfl rfl (by decide) (by decide) hk9 hFc hP1 hD1
      generalize H1 = H at hP hS ⊢
      have hP : va_P G vwCl ([((ad 0), .inr (3, [.ref (ad 1), .ref (ad 2), .int (nI (uN u))])), ((ad 2), aF q 6 (fun j => if j < uN u then some (uO u j) else none)), ((ad 1), .inr (1, [.ref (ad 3), .ref (ad 4), .ref (ad 5), .ref (ad 6), .ref (ad 7), .double (uM u), .int (nI (uT u))])), ((ad 3), aI q 8 (uP u)), ((ad 4), aD q 8 (fun i => FP.i2d (uX u i))), ((ad 5), aD q 16 (fun i => FP.i2d (uA u i))), ((ad 6), aD q 16 (fun i => FP.i2d (uB u i))), ((ad 7), aD q 16 (uF u))] ++ TW (uN u) (WQ q (uC u))) H := hP
      have hD : va_D A ([((ad 0), .inr (3, [.ref (ad 1), .ref (ad 2), .int (nI (uN u))])), ((ad 2), aF q 6 (fun j => if j < uN u then some (uO u j) else none)), ((ad 1), .inr (1, [.ref (ad 3), .ref (ad 4), .ref (ad 5), .ref (ad 6), .ref (ad 7), .double (uM u), .int (nI (uT u))])), ((ad 3), aI q 8 (uP u)), ((ad 4), aD q 8 (fun i => FP.i2d (uX u i))), ((ad 5), aD q 16 (fun i => FP.i2d (uA u i))), ((ad 6), aD q 16 (fun i => FP.i2d (uB u i))), ((ad 7), aD q 16 (uF u))] ++ TW (uN u) (WQ q (uC u))) := hD
      try dsimp only at hw
      subst hw
      by_cases hcnd9 : (lowV (v >>> (17 &&& 31)) 3) = 0
      · skip
        refine lv_if_ne (tgt := 475) hx hb dL_act_456 (by decide) (fun h => absurd hcnd9 h) (fun _ => ?_)
        refine lv_iload_n hx hb dL_act_459 rfl (lv_at hl 6 rfl) ?_
        refine lv_iconst (v := 4) hx hb dL_act_460 (by decide) ?_
        refine lv_ishr hx hb dL_act_461 ?_
        refine lv_sipush (v := 400) hx hb dL_act_462 (by decide) ?_
        have hPc := hP.sub (ws' := []) [] rfl
        have hDc := hD.sub (ws' := []) [] (by decide) rfl
        have hFc := va_free (wc := []) hD hS hA [] rfl
        refine va_calli (va_runS (As := [.int (v >>> (4 &&& 31)), .int 400]) (rest := [.int ((lowV (v >>> (9 &&& 31)) 900) - 450), .ref (ad 0)]) ⟨hx, hb, hml, hown, (dr_words hts s.drawn)⟩ (m_L_low l G q H.size (v >>> (4 &&& 31)) 400 (by decide)) (va_cwS 2 (dr_words hts s.drawn) gL_act_L_low rfl rfl rfl (by decide +kernel) ⟨Nat.le_of_ble_eq_true rfl, Nat.le_of_ble_eq_true rfl⟩) ⟨preW_blind, preW_start (s := s.setDrawn s.drawn) hPc hK hDc (hNF.drawn s.drawn)⟩ rfl rfl hl.1 rfl (lv_room (Nat.le_of_ble_eq_true rfl)) dL_act_465 ⟨(by show _ ≤ 11; omega), (by show _ ≤ 73; omega)⟩) hS (fun q _ h => hFc q h) hFc (fun rl u9 t9 H1 locs ht9 hv9 hw hB9 hz9 hk9 hS => ?_)
        obtain ⟨⟩ := u9
        obtain ⟨hP1, hD1⟩ := hB9
        rw [ht9] at hP1
        obtain ⟨hP, hD⟩ := va_joinQ (wr := [((ad 0), .inr (3, [.ref (ad 1), .ref (ad 2), .int (nI (uN u))])), ((ad 2), aF q 6 (fun j => if j < uN u then some (uO u j) else none)), ((ad 1), .inr (1, [.ref (ad 3), .ref (ad 4), .ref (ad 5), .ref (ad 6), .ref (ad 7), .double (uM u), .int (nI (uT u))])), ((ad 3), aI q 8 (uP u)), ((ad 4), aD q 8 (fun i => FP.i2d (uX u i))), ((ad 5), aD q 16 (fun i => FP.i2d (uA u i))), ((ad 6), aD q 16 (fun i => FP.i2d (uB u i))), ((ad 7), aD q 16 (uF u))]) (w1 := []) hP hD [] [0, 1, 2, 3, 4, 5, 6, 7] rfl rfl (by decide) (by decide) hk9 hFc hP1 hD1
        generalize H1 = H at hP hS ⊢
        have hP : va_P G vwCl ([((ad 0), .inr (3, [.ref (ad 1), .ref (ad 2), .int (nI (uN u))])), ((ad 2), aF q 6 (fun j => if j < uN u then some (uO u j) else none)), ((ad 1), .inr (1, [.ref (ad 3), .ref (ad 4), .ref (ad 5), .ref (ad 6), .ref (ad 7), .double (uM u), .int (nI (uT u))])), ((ad 3), aI q 8 (uP u)), ((ad 4), aD q 8 (fun i => FP.i2d (uX u i))), ((ad 5), aD q 16 (fun i => FP.i2d (uA u i))), ((ad 6), aD q 16 (fun i => FP.i2d (uB u i))), ((ad 7), aD q 16 (uF u))] ++ TW (uN u) (WQ q (uC u))) H := hP
        have hD : va_D A ([((ad 0), .inr (3, [.ref (ad 1), .ref (ad 2), .int (nI (uN u))])), ((ad 2), aF q 6 (fun j => if j < uN u then some (uO u j) else none)), ((ad 1), .inr (1, [.ref (ad 3), .ref (ad 4), .ref (ad 5), .ref (ad 6), .ref (ad 7), .double (uM u), .int (nI (uT u))])), ((ad 3), aI q 8 (uP u)), ((ad 4), aD q 8 (fun i => FP.i2d (uX u i))), ((ad 5), aD q 16 (fun i => FP.i2d (uA u i))), ((ad 6), aD q 16 (fun i => FP.i2d (uB u i))), ((ad 7), aD q 16 (uF u))] ++ TW (uN u) (WQ q (uC u))) := hD
        try dsimp only at hw
        subst hw
        refine lv_sipush (v := 200) hx hb dL_act_468 (by decide) ?_
        refine lv_isub hx hb dL_act_471 ?_
        refine lv_topi (fun x155 ex155 => ?_)
        obtain rfl : x155 = ((lowV (v >>> (4 &&& 31)) 400) - 200) := ex155
        refine lv_goto (tgt := 476) hx hb dL_act_472 (by decide) ?_
        have hPc := hP.part (cx := [((ad 0), .inr (3, [.ref (ad 1), .ref (ad 2), .int (nI (uN u))])), ((ad 2), aF q 6 (fun j => if j < uN u then some (uO u j) else none)), ((ad 1), .inr (1, [.ref (ad 3), .ref (ad 4), .ref (ad 5), .ref (ad 6), .ref (ad 7), .double (uM u), .int (nI (uT u))])), ((ad 3), aI q 8 (uP u)), ((ad 4), aD q 8 (fun i => FP.i2d (uX u i))), ((ad 5), aD q 16 (fun i => FP.i2d (uA u i))), ((ad 6), aD q 16 (fun i => FP.i2d (uB u i))), ((ad 7), aD q 16 (uF u))]) [0, 1, 2, 3, 4, 5, 6, 7] rfl
        have hDc := hD.part (cx := [((ad 0), .inr (3, [.ref (ad 1), .ref (ad 2), .int (nI (uN u))])), ((ad 2), aF q 6 (fun j => if j < uN u then some (uO u j) else none)), ((ad 1), .inr (1, [.ref (ad 3), .ref (ad 4), .ref (ad 5), .ref (ad 6), .ref (ad 7), .double (uM u), .int (nI (uT u))])), ((ad 3), aI q 8 (uP u)), ((ad 4), aD q 8 (fun i => FP.i2d (uX u i))), ((ad 5), aD q 16 (fun i => FP.i2d (uA u i))), ((ad 6), aD q 16 (fun i => FP.i2d (uB u i))), ((ad 7), aD q 16 (uF u))]) [0, 1, 2, 3, 4, 5, 6, 7] (by decide) rfl
        have hFc := va_freeP (cx := [((ad 0), .inr (3, [.ref (ad 1), .ref (ad 2), .int (nI (uN u))])), ((ad 2), aF q 6 (fun j => if j < uN u then some (uO u j) else none)), ((ad 1), .inr (1, [.ref (ad 3), .ref (ad 4), .ref (ad 5), .ref (ad 6), .ref (ad 7), .double (uM u), .int (nI (uT u))])), ((ad 3), aI q 8 (uP u)), ((ad 4), aD q 8 (fun i => FP.i2d (uX u i))), ((ad 5), aD q 16 (fun i => FP.i2d (uA u i))), ((ad 6), aD q 16 (fun i => FP.i2d (uB u i))), ((ad 7), aD q 16 (uF u))]) hD hS hA [0, 1, 2, 3, 4, 5, 6, 7] rfl
        refine va_calllD hd0 (swd_run (As := [.ref (ad 0), .int ((lowV (v >>> (9 &&& 31)) 900) - 450), .int ((lowV (v >>> (4 &&& 31)) 400) - 200)]) (rest := []) ⟨hx, hb, hml, hown, (dr_words hts s.drawn)⟩ (h_feed hst ((lowV (v >>> (9 &&& 31)) 900) - 450) ((lowV (v >>> (4 &&& 31)) 400) - 200) G q H.size ad V u hu) (vx_cwSW 3 (dr_words hts s.drawn) gL_act_L_feed rfl rfl rfl (by decide +kernel) ⟨Nat.le_of_ble_eq_true rfl, Nat.le_of_ble_eq_true rfl⟩) ⟨preY_blind, preY_start (s := s.setDrawn s.drawn) hPc hK hDc (hNF.drawn s.drawn) (hNT.drawn s.drawn) (hNC.drawn s.drawn) hS (fun q h => hFc q h)⟩ rfl rfl hl.1 rfl (lv_room (Nat.le_of_ble_eq_true rfl)) dL_act_476 ⟨(by show _ ≤ 11; omega), (by show _ ≤ 73; omega)⟩) hS (fun q _ h => hFc q h) hFc (fun r1 u9 t9 H1 locs ht9 hv99 hw hB9 hz9 hk9 hS du156 hu156 => ?_)
        obtain ⟨u1, rfl⟩ : ∃ z, z = u9 := ⟨_, rfl⟩
        obtain ⟨hP1, hD1⟩ := hB9
        rw [ht9] at hP1
        obtain ⟨hP, hD⟩ := va_joinP (wr := []) (rx := [((ad 0), .inr (3, [.ref (ad 1), .ref (ad 2), .int (nI (uN u1))])), ((ad 2), aF q 6 (fun j => if j < uN u1 then some (uO u1 j) else none)), ((ad 1), .inr (1, [.ref (ad 3), .ref (ad 4), .ref (ad 5), .ref (ad 6), .ref (ad 7), .double (uM u1), .int (nI (uT u1))])), ((ad 3), aI q 8 (uP u1)), ((ad 4), aD q 8 (fun i => FP.i2d (uX u1 i))), ((ad 5), aD q 16 (fun i => FP.i2d (uA u1 i))), ((ad 6), aD q 16 (fun i => FP.i2d (uB u1 i))), ((ad 7), aD q 16 (uF u1))]) (pl1 := TW (uN u1) (WQ q (uC u1))) hP hD [0, 1, 2, 3, 4, 5, 6, 7] [] rfl rfl (by decide) (by decide) hk9 hFc hP1 hD1
        generalize H1 = H at hP hS ⊢
        have hP : va_P G vwCl ([((ad 0), .inr (3, [.ref (ad 1), .ref (ad 2), .int (nI (uN u1))])), ((ad 2), aF q 6 (fun j => if j < uN u1 then some (uO u1 j) else none)), ((ad 1), .inr (1, [.ref (ad 3), .ref (ad 4), .ref (ad 5), .ref (ad 6), .ref (ad 7), .double (uM u1), .int (nI (uT u1))])), ((ad 3), aI q 8 (uP u1)), ((ad 4), aD q 8 (fun i => FP.i2d (uX u1 i))), ((ad 5), aD q 16 (fun i => FP.i2d (uA u1 i))), ((ad 6), aD q 16 (fun i => FP.i2d (uB u1 i))), ((ad 7), aD q 16 (uF u1))] ++ TW (uN u1) (WQ q (uC u1))) H := hP
        have hD : va_D A ([((ad 0), .inr (3, [.ref (ad 1), .ref (ad 2), .int (nI (uN u1))])), ((ad 2), aF q 6 (fun j => if j < uN u1 then some (uO u1 j) else none)), ((ad 1), .inr (1, [.ref (ad 3), .ref (ad 4), .ref (ad 5), .ref (ad 6), .ref (ad 7), .double (uM u1), .int (nI (uT u1))])), ((ad 3), aI q 8 (uP u1)), ((ad 4), aD q 8 (fun i => FP.i2d (uX u1 i))), ((ad 5), aD q 16 (fun i => FP.i2d (uA u1 i))), ((ad 6), aD q 16 (fun i => FP.i2d (uB u1 i))), ((ad 7), aD q 16 (uF u1))] ++ TW (uN u1) (WQ q (uC u1))) := hD
        have hA : vAct v V = vFeed ((lowV (v >>> (9 &&& 31)) 900) - 450) ((lowV (v >>> (4 &&& 31)) 400) - 200) V := by unfold vAct; rw [if_neg hcnd1]; unfold actE; rw [← hcs]; rw [selV_11]; rw [if_pos hcnd9]
        rw [← hA] at hw
        refine W.widen (k := 11) (n := 73) (Nat.le_of_ble_eq_true rfl) (Nat.le_of_ble_eq_true rfl) ?_
        have hP9 := hP
        have hD9 := hD
        refine W.endD hu156 ?_
        exact W.lret (v := r1) hx hb hr (fun t ht hW => ⟨⟨r1, u1, rfl, hw, by rw [ht]; exact hP9, hD9⟩, hS.F ht⟩) hS.2.2 dL_act_479
      · skip
        refine lv_if_ne (tgt := 475) hx hb dL_act_456 (by decide) (fun _ => ?_) (fun h => absurd h hcnd9)
        refine lv_iconst (v := 0) hx hb dL_act_475 (by decide) ?_
        have hPc := hP.part (cx := [((ad 0), .inr (3, [.ref (ad 1), .ref (ad 2), .int (nI (uN u))])), ((ad 2), aF q 6 (fun j => if j < uN u then some (uO u j) else none)), ((ad 1), .inr (1, [.ref (ad 3), .ref (ad 4), .ref (ad 5), .ref (ad 6), .ref (ad 7), .double (uM u), .int (nI (uT u))])), ((ad 3), aI q 8 (uP u)), ((ad 4), aD q 8 (fun i => FP.i2d (uX u i))), ((ad 5), aD q 16 (fun i => FP.i2d (uA u i))), ((ad 6), aD q 16 (fun i => FP.i2d (uB u i))), ((ad 7), aD q 16 (uF u))]) [0, 1, 2, 3, 4, 5, 6, 7] rfl
        have hDc := hD.part (cx := [((ad 0), .inr (3, [.ref (ad 1), .ref (ad 2), .int (nI (uN u))])), ((ad 2), aF q 6 (fun j => if j < uN u then some (uO u j) else none)), ((ad 1), .inr (1, [.ref (ad 3), .ref (ad 4), .ref (ad 5), .ref (ad 6), .ref (ad 7), .double (uM u), .int (nI (uT u))])), ((ad 3), aI q 8 (uP u)), ((ad 4), aD q 8 (fun i => FP.i2d (uX u i))), ((ad 5), aD q 16 (fun i => FP.i2d (uA u i))), ((ad 6), aD q 16 (fun i => FP.i2d (uB u i))), ((ad 7), aD q 16 (uF u))]) [0, 1, 2, 3, 4, 5, 6, 7] (by decide) rfl
        have hFc := va_freeP (cx := [((ad 0), .inr (3, [.ref (ad 1), .ref (ad 2), .int (nI (uN u))])), ((ad 2), aF q 6 (fun j => if j < uN u then some (uO u j) else none)), ((ad 1), .inr (1, [.ref (ad 3), .ref (ad 4), .ref (ad 5), .ref (ad 6), .ref (ad 7), .double (uM u), .int (nI (uT u))])), ((ad 3), aI q 8 (uP u)), ((ad 4), aD q 8 (fun i => FP.i2d (uX u i))), ((ad 5), aD q 16 (fun i => FP.i2d (uA u i))), ((ad 6), aD q 16 (fun i => FP.i2d (uB u i))), ((ad 7), aD q 16 (uF u))]) hD hS hA [0, 1, 2, 3, 4, 5, 6, 7] rfl
        refine va_calllD hd0 (swd_run (As := [.ref (ad 0), .int ((lowV (v >>> (9 &&& 31)) 900) - 450), .int 0]) (rest := []) ⟨hx, hb, hml, hown, (dr_words hts s.drawn)⟩ (h_feed hst ((lowV (v >>> (9 &&& 31)) 900) - 450) 0 G q H.size ad V u hu) (vx_cwSW 3 (dr_words hts s.drawn) gL_act_L_feed rfl rfl rfl (by decide +kernel) ⟨Nat.le_of_ble_eq_true rfl, Nat.le_of_ble_eq_true rfl⟩) ⟨preY_blind, preY_start (s := s.setDrawn s.drawn) hPc hK hDc (hNF.drawn s.drawn) (hNT.drawn s.drawn) (hNC.drawn s.drawn) hS (fun q h => hFc q h)⟩ rfl rfl hl.1 rfl (lv_room (Nat.le_of_ble_eq_true rfl)) dL_act_476 ⟨(by show _ ≤ 11; omega), (by show _ ≤ 73; omega)⟩) hS (fun q _ h => hFc q h) hFc (fun r1 u9 t9 H1 locs ht9 hv99 hw hB9 hz9 hk9 hS du158 hu158 => ?_)
        obtain ⟨u1, rfl⟩ : ∃ z, z = u9 := ⟨_, rfl⟩
        obtain ⟨hP1, hD1⟩ := hB9
        rw [ht9] at hP1
        obtain ⟨hP, hD⟩ := va_joinP (wr := []) (rx := [((ad 0), .inr (3, [.ref (ad 1), .ref (ad 2), .int (nI (uN u1))])), ((ad 2), aF q 6 (fun j => if j < uN u1 then some (uO u1 j) else none)), ((ad 1), .inr (1, [.ref (ad 3), .ref (ad 4), .ref (ad 5), .ref (ad 6), .ref (ad 7), .double (uM u1), .int (nI (uT u1))])), ((ad 3), aI q 8 (uP u1)), ((ad 4), aD q 8 (fun i => FP.i2d (uX u1 i))), ((ad 5), aD q 16 (fun i => FP.i2d (uA u1 i))), ((ad 6), aD q 16 (fun i => FP.i2d (uB u1 i))), ((ad 7), aD q 16 (uF u1))]) (pl1 := TW (uN u1) (WQ q (uC u1))) hP hD [0, 1, 2, 3, 4, 5, 6, 7] [] rfl rfl (by decide) (by decide) hk9 hFc hP1 hD1
        generalize H1 = H at hP hS ⊢
        have hP : va_P G vwCl ([((ad 0), .inr (3, [.ref (ad 1), .ref (ad 2), .int (nI (uN u1))])), ((ad 2), aF q 6 (fun j => if j < uN u1 then some (uO u1 j) else none)), ((ad 1), .inr (1, [.ref (ad 3), .ref (ad 4), .ref (ad 5), .ref (ad 6), .ref (ad 7), .double (uM u1), .int (nI (uT u1))])), ((ad 3), aI q 8 (uP u1)), ((ad 4), aD q 8 (fun i => FP.i2d (uX u1 i))), ((ad 5), aD q 16 (fun i => FP.i2d (uA u1 i))), ((ad 6), aD q 16 (fun i => FP.i2d (uB u1 i))), ((ad 7), aD q 16 (uF u1))] ++ TW (uN u1) (WQ q (uC u1))) H := hP
        have hD : va_D A ([((ad 0), .inr (3, [.ref (ad 1), .ref (ad 2), .int (nI (uN u1))])), ((ad 2), aF q 6 (fun j => if j < uN u1 then some (uO u1 j) else none)), ((ad 1), .inr (1, [.ref (ad 3), .ref (ad 4), .ref (ad 5), .ref (ad 6), .ref (ad 7), .double (uM u1), .int (nI (uT u1))])), ((ad 3), aI q 8 (uP u1)), ((ad 4), aD q 8 (fun i => FP.i2d (uX u1 i))), ((ad 5), aD q 16 (fun i => FP.i2d (uA u1 i))), ((ad 6), aD q 16 (fun i => FP.i2d (uB u1 i))), ((ad 7), aD q 16 (uF u1))] ++ TW (uN u1) (WQ q (uC u1))) := hD
        have hA : vAct v V = vFeed ((lowV (v >>> (9 &&& 31)) 900) - 450) 0 V := by unfold vAct; rw [if_neg hcnd1]; unfold actE; rw [← hcs]; rw [selV_11]; rw [if_neg hcnd9]
        rw [← hA] at hw
        refine W.widen (k := 11) (n := 73) (Nat.le_of_ble_eq_true rfl) (Nat.le_of_ble_eq_true rfl) ?_
        have hP9 := hP
        have hD9 := hD
        refine W.endD hu158 ?_
        exact W.lret (v := r1) hx hb hr (fun t ht hW => ⟨⟨r1, u1, rfl, hw, by rw [ht]; exact hP9, hD9⟩, hS.F ht⟩) hS.2.2 dL_act_479
    · skip
      refine lv_tableIn (off := 303) (tgt := 435) hx hb dL_act_132 (by decide) (by decide) (by decide) (by decide) ?_
      refine lv_aload_n hx hb dL_act_435 rfl (lv_at hl 5 rfl) ?_
      refine lv_iload hx hb dL_act_436 (lv_at hl 1 rfl) ?_
      refine lv_iload_n hx hb dL_act_438 rfl (lv_at hl 4 rfl) ?_
      refine lv_if_eq (tgt := 448) hx hb dL_act_439 (by decide) (fun _ => ?_) (fun h => absurd (by decide) h)
      refine lv_iload_n hx hb dL_act_448 rfl (lv_at hl 6 rfl) ?_
      refine lv_bipush (v := 17) hx hb dL_act_449 (by decide) ?_
      refine lv_ishr hx hb dL_act_451 ?_
      refine lv_iconst (v := 3) hx hb dL_act_452 (by decide) ?_
      have hPc := hP.sub (ws' := []) [] rfl
      have hDc := hD.sub (ws' := []) [] (by decide) rfl
      have hFc := va_free (wc := []) hD hS hA [] rfl
      refine va_calli (va_runS (As := [.int (v >>> (17 &&& 31)), .int 3]) (rest := [.int ((lowV (v >>> (9 &&& 31)) 900) - 450), .ref (ad 0)]) ⟨hx, hb, hml, hown, (dr_words hts s.drawn)⟩ (m_L_low l G q H.size (v >>> (17 &&& 31)) 3 (by decide)) (va_cwS 2 (dr_words hts s.drawn) gL_act_L_low rfl rfl rfl (by decide +kernel) ⟨Nat.le_of_ble_eq_true rfl, Nat.le_of_ble_eq_true rfl⟩) ⟨preW_blind, preW_start (s := s.setDrawn s.drawn) hPc hK hDc (hNF.drawn s.drawn)⟩ rfl rfl hl.1 rfl (lv_room (Nat.le_of_ble_eq_true rfl)) dL_act_453 ⟨(by show _ ≤ 11; omega), (by show _ ≤ 73; omega)⟩) hS (fun q _ h => hFc q h) hFc (fun rl u9 t9 H1 locs ht9 hv9 hw hB9 hz9 hk9 hS => ?_)
      obtain ⟨⟩ := u9
      obtain ⟨hP1, hD1⟩ := hB9
      rw [ht9] at hP1
      obtain ⟨hP, hD⟩ := va_joinQ (wr := [((ad 0), .inr (3, [.ref (ad 1), .ref (ad 2), .int (nI (uN u))])), ((ad 2), aF q 6 (fun j => if j < uN u then some (uO u j) else none)), ((ad 1), .inr (1, [.ref (ad 3), .ref (ad 4), .ref (ad 5), .ref (ad 6), .ref (ad 7), .double (uM u), .int (nI (uT u))])), ((ad 3), aI q 8 (uP u)), ((ad 4), aD q 8 (fun i => FP.i2d (uX u i))), ((ad 5), aD q 16 (fun i => FP.i2d (uA u i))), ((ad 6), aD q 16 (fun i => FP.i2d (uB u i))), ((ad 7), aD q 16 (uF u))]) (w1 := []) hP hD [] [0, 1, 2, 3, 4, 5, 6, 7] rfl rfl (by decide) (by decide) hk9 hFc hP1 hD1
      generalize H1 = H at hP hS ⊢
      have hP : va_P G vwCl ([((ad 0), .inr (3, [.ref (ad 1), .ref (ad 2), .int (nI (uN u))])), ((ad 2), aF q 6 (fun j => if j < uN u then some (uO u j) else none)), ((ad 1), .inr (1, [.ref (ad 3), .ref (ad 4), .ref (ad 5), .ref (ad 6), .ref (ad 7), .double (uM u), .int (nI (uT u))])), ((ad 3), aI q 8 (uP u)), ((ad 4), aD q 8 (fun i => FP.i2d (uX u i))), ((ad 5), aD q 16 (fun i => FP.i2d (uA u i))), ((ad 6), aD q 16 (fun i => FP.i2d (uB u i))), ((ad 7), aD q 16 (uF u))] ++ TW (uN u) (WQ q (uC u))) H := hP
      have hD : va_D A ([((ad 0), .inr (3, [.ref (ad 1), .ref (ad 2), .int (nI (uN u))])), ((ad 2), aF q 6 (fun j => if j < uN u then some (uO u j) else none)), ((ad 1), .inr (1, [.ref (ad 3), .ref (ad 4), .ref (ad 5), .ref (ad 6), .ref (ad 7), .double (uM u), .int (nI (uT u))])), ((ad 3), aI q 8 (uP u)), ((ad 4), aD q 8 (fun i => FP.i2d (uX u i))), ((ad 5), aD q 16 (fun i => FP.i2d (uA u i))), ((ad 6), aD q 16 (fun i => FP.i2d (uB u i))), ((ad 7), aD q 16 (uF u))] ++ TW (uN u) (WQ q (uC u))) := hD
      try dsimp only at hw
      subst hw
      by_cases hcnd10 : (lowV (v >>> (17 &&& 31)) 3) = 0
      · skip
        refine lv_if_ne (tgt := 475) hx hb dL_act_456 (by decide) (fun h => absurd hcnd10 h) (fun _ => ?_)
        refine lv_iload_n hx hb dL_act_459 rfl (lv_at hl 6 rfl) ?_
        refine lv_iconst (v := 4) hx hb dL_act_460 (by decide) ?_
        refine lv_ishr hx hb dL_act_461 ?_
        refine lv_sipush (v := 400) hx hb dL_act_462 (by decide) ?_
        have hPc := hP.sub (ws' := []) [] rfl
        have hDc := hD.sub (ws' := []) [] (by decide) rfl
        have hFc := va_free (wc := []) hD hS hA [] rfl
        refine va_calli (va_runS (As := [.int (v >>> (4 &&& 31)), .int 400]) (rest := [.int ((lowV (v >>> (9 &&& 31)) 900) - 450), .ref (ad 0)]) ⟨hx, hb, hml, hown, (dr_words hts s.drawn)⟩ (m_L_low l G q H.size (v >>> (4 &&& 31)) 400 (by decide)) (va_cwS 2 (dr_words hts s.drawn) gL_act_L_low rfl rfl rfl (by decide +kernel) ⟨Nat.le_of_ble_eq_true rfl, Nat.le_of_ble_eq_true rfl⟩) ⟨preW_blind, preW_start (s := s.setDrawn s.drawn) hPc hK hDc (hNF.drawn s.drawn)⟩ rfl rfl hl.1 rfl (lv_room (Nat.le_of_ble_eq_true rfl)) dL_act_465 ⟨(by show _ ≤ 11; omega), (by show _ ≤ 73; omega)⟩) hS (fun q _ h => hFc q h) hFc (fun rl u9 t9 H1 locs ht9 hv9 hw hB9 hz9 hk9 hS => ?_)
        obtain ⟨⟩ := u9
        obtain ⟨hP1, hD1⟩ := hB9
        rw [ht9] at hP1
        obtain ⟨hP, hD⟩ := va_joinQ (wr := [((ad 0), .inr (3, [.ref (ad 1), .ref (ad 2), .int (nI (uN u))])), ((ad 2), aF q 6 (fun j => if j < uN u then some (uO u j) else none)), ((ad 1), .inr (1, [.ref (ad 3), .ref (ad 4), .ref (ad 5), .ref (ad 6), .ref (ad 7), .double (uM u), .int (nI (uT u))])), ((ad 3), aI q 8 (uP u)), ((ad 4), aD q 8 (fun i => FP.i2d (uX u i))), ((ad 5), aD q 16 (fun i => FP.i2d (uA u i))), ((ad 6), aD q 16 (fun i => FP.i2d (uB u i))), ((ad 7), aD q 16 (uF u))]) (w1 := []) hP hD [] [0, 1, 2, 3, 4, 5, 6, 7] rfl rfl (by decide) (by decide) hk9 hFc hP1 hD1
        generalize H1 = H at hP hS ⊢
        have hP : va_P G vwCl ([((ad 0), .inr (3, [.ref (ad 1), .ref (ad 2), .int (nI (uN u))])), ((ad 2), aF q 6 (fun j => if j < uN u then some (uO u j) else none)), ((ad 1), .inr (1, [.ref (ad 3), .ref (ad 4), .ref (ad 5), .ref (ad 6), .ref (ad 7), .double (uM u), .int (nI (uT u))])), ((ad 3), aI q 8 (uP u)), ((ad 4), aD q 8 (fun i => FP.i2d (uX u i))), ((ad 5), aD q 16 (fun i => FP.i2d (uA u i))), ((ad 6), aD q 16 (fun i => FP.i2d (uB u i))), ((ad 7), aD q 16 (uF u))] ++ TW (uN u) (WQ q (uC u))) H := hP
        have hD : va_D A ([((ad 0), .inr (3, [.ref (ad 1), .ref (ad 2), .int (nI (uN u))])), ((ad 2), aF q 6 (fun j => if j < uN u then some (uO u j) else none)), ((ad 1), .inr (1, [.ref (ad 3), .ref (ad 4), .ref (ad 5), .ref (ad 6), .ref (ad 7), .double (uM u), .int (nI (uT u))])), ((ad 3), aI q 8 (uP u)), ((ad 4), aD q 8 (fun i => FP.i2d (uX u i))), ((ad 5), aD q 16 (fun i => FP.i2d (uA u i))), ((ad 6), aD q 16 (fun i => FP.i2d (uB u i))), ((ad 7), aD q 16 (uF u))] ++ TW (uN u) (WQ q (uC u))) := hD
        try dsimp only at hw
        subst hw
        refine lv_sipush (v := 200) hx hb dL_act_468 (by decide) ?_
        refine lv_isub hx hb dL_act_471 ?_
        refine lv_topi (fun x163 ex163 => ?_)
        obtain rfl : x163 = ((lowV (v >>> (4 &&& 31)) 400) - 200) := ex163
        refine lv_goto (tgt := 476) hx hb dL_act_472 (by decide) ?_
        have hPc := hP.part (cx := [((ad 0), .inr (3, [.ref (ad 1), .ref (ad 2), .int (nI (uN u))])), ((ad 2), aF q 6 (fun j => if j < uN u then some (uO u j) else none)), ((ad 1), .inr (1, [.ref (ad 3), .ref (ad 4), .ref (ad 5), .ref (ad 6), .ref (ad 7), .double (uM u), .int (nI (uT u))])), ((ad 3), aI q 8 (uP u)), ((ad 4), aD q 8 (fun i => FP.i2d (uX u i))), ((ad 5), aD q 16 (fun i => FP.i2d (uA u i))), ((ad 6), aD q 16 (fun i => FP.i2d (uB u i))), ((ad 7), aD q 16 (uF u))]) [0, 1, 2, 3, 4, 5, 6, 7] rfl
        have hDc := hD.part (cx := [((ad 0), .inr (3, [.ref (ad 1), .ref (ad 2), .int (nI (uN u))])), ((ad 2), aF q 6 (fun j => if j < uN u then some (uO u j) else none)), ((ad 1), .inr (1, [.ref (ad 3), .ref (ad 4), .ref (ad 5), .ref (ad 6), .ref (ad 7), .double (uM u), .int (nI (uT u))])), ((ad 3), aI q 8 (uP u)), ((ad 4), aD q 8 (fun i => FP.i2d (uX u i))), ((ad 5), aD q 16 (fun i => FP.i2d (uA u i))), ((ad 6), aD q 16 (fun i => FP.i2d (uB u i))), ((ad 7), aD q 16 (uF u))]) [0, 1, 2, 3, 4, 5, 6, 7] (by decide) rfl
        have hFc := va_freeP (cx := [((ad 0), .inr (3, [.ref (ad 1), .ref (ad 2), .int (nI (uN u))])), ((ad 2), aF q 6 (fun j => if j < uN u then some (uO u j) else none)), ((ad 1), .inr (1, [.ref (ad 3), .ref (ad 4), .ref (ad 5), .ref (ad 6), .ref (ad 7), .double (uM u), .int (nI (uT u))])), ((ad 3), aI q 8 (uP u)), ((ad 4), aD q 8 (fun i => FP.i2d (uX u i))), ((ad 5), aD q 16 (fun i => FP.i2d (uA u i))), ((ad 6), aD q 16 (fun i => FP.i2d (uB u i))), ((ad 7), aD q 16 (uF u))]) hD hS hA [0, 1, 2, 3, 4, 5, 6, 7] rfl
        refine va_calllD hd0 (swd_run (As := [.ref (ad 0), .int ((lowV (v >>> (9 &&& 31)) 900) - 450), .int ((lowV (v >>> (4 &&& 31)) 400) - 200)]) (rest := []) ⟨hx, hb, hml, hown, (dr_words hts s.drawn)⟩ (h_feed hst ((lowV (v >>> (9 &&& 31)) 900) - 450) ((lowV (v >>> (4 &&& 31)) 400) - 200) G q H.size ad V u hu) (vx_cwSW 3 (dr_words hts s.drawn) gL_act_L_feed rfl rfl rfl (by decide +kernel) ⟨Nat.le_of_ble_eq_true rfl, Nat.le_of_ble_eq_true rfl⟩) ⟨preY_blind, preY_start (s := s.setDrawn s.drawn) hPc hK hDc (hNF.drawn s.drawn) (hNT.drawn s.drawn) (hNC.drawn s.drawn) hS (fun q h => hFc q h)⟩ rfl rfl hl.1 rfl (lv_room (Nat.le_of_ble_eq_true rfl)) dL_act_476 ⟨(by show _ ≤ 11; omega), (by show _ ≤ 73; omega)⟩) hS (fun q _ h => hFc q h) hFc (fun r1 u9 t9 H1 locs ht9 hv99 hw hB9 hz9 hk9 hS du164 hu164 => ?_)
        obtain ⟨u1, rfl⟩ : ∃ z, z = u9 := ⟨_, rfl⟩
        obtain ⟨hP1, hD1⟩ := hB9
        rw [ht9] at hP1
        obtain ⟨hP, hD⟩ := va_joinP (wr := []) (rx := [((ad 0), .inr (3, [.ref (ad 1), .ref (ad 2), .int (nI (uN u1))])), ((ad 2), aF q 6 (fun j => if j < uN u1 then some (uO u1 j) else none)), ((ad 1), .inr (1, [.ref (ad 3), .ref (ad 4), .ref (ad 5), .ref (ad 6), .ref (ad 7), .double (uM u1), .int (nI (uT u1))])), ((ad 3), aI q 8 (uP u1)), ((ad 4), aD q 8 (fun i => FP.i2d (uX u1 i))), ((ad 5), aD q 16 (fun i => FP.i2d (uA u1 i))), ((ad 6), aD q 16 (fun i => FP.i2d (uB u1 i))), ((ad 7), aD q 16 (uF u1))]) (pl1 := TW (uN u1) (WQ q (uC u1))) hP hD [0, 1, 2, 3, 4, 5, 6, 7] [] rfl rfl (by decide) (by decide) hk9 hFc hP1 hD1
        generalize H1 = H at hP hS ⊢
        have hP : va_P G vwCl ([((ad 0), .inr (3, [.ref (ad 1), .ref (ad 2), .int (nI (uN u1))])), ((ad 2), aF q 6 (fun j => if j < uN u1 then some (uO u1 j) else none)), ((ad 1), .inr (1, [.ref (ad 3), .ref (ad 4), .ref (ad 5), .ref (ad 6), .ref (ad 7), .double (uM u1), .int (nI (uT u1))])), ((ad 3), aI q 8 (uP u1)), ((ad 4), aD q 8 (fun i => FP.i2d (uX u1 i))), ((ad 5), aD q 16 (fun i => FP.i2d (uA u1 i))), ((ad 6), aD q 16 (fun i => FP.i2d (uB u1 i))), ((ad 7), aD q 16 (uF u1))] ++ TW (uN u1) (WQ q (uC u1))) H := hP
        have hD : va_D A ([((ad 0), .inr (3, [.ref (ad 1), .ref (ad 2), .int (nI (uN u1))])), ((ad 2), aF q 6 (fun j => if j < uN u1 then some (uO u1 j) else none)), ((ad 1), .inr (1, [.ref (ad 3), .ref (ad 4), .ref (ad 5), .ref (ad 6), .ref (ad 7), .double (uM u1), .int (nI (uT u1))])), ((ad 3), aI q 8 (uP u1)), ((ad 4), aD q 8 (fun i => FP.i2d (uX u1 i))), ((ad 5), aD q 16 (fun i => FP.i2d (uA u1 i))), ((ad 6), aD q 16 (fun i => FP.i2d (uB u1 i))), ((ad 7), aD q 16 (uF u1))] ++ TW (uN u1) (WQ q (uC u1))) := hD
        have hA : vAct v V = vFeed ((lowV (v >>> (9 &&& 31)) 900) - 450) ((lowV (v >>> (4 &&& 31)) 400) - 200) V := by unfold vAct; rw [if_neg hcnd1]; unfold actE; rw [← hcs]; rw [selV_12]; rw [if_pos hcnd10]
        rw [← hA] at hw
        refine W.widen (k := 11) (n := 73) (Nat.le_of_ble_eq_true rfl) (Nat.le_of_ble_eq_true rfl) ?_
        have hP9 := hP
        have hD9 := hD
        refine W.endD hu164 ?_
        exact W.lret (v := r1) hx hb hr (fun t ht hW => ⟨⟨r1, u1, rfl, hw, by rw [ht]; exact hP9, hD9⟩, hS.F ht⟩) hS.2.2 dL_act_479
      · skip
        refine lv_if_ne (tgt := 475) hx hb dL_act_456 (by decide) (fun _ => ?_) (fun h => absurd h hcnd10)
        refine lv_iconst (v := 0) hx hb dL_act_475 (by decide) ?_
        have hPc := hP.part (cx := [((ad 0), .inr (3, [.ref (ad 1), .ref (ad 2), .int (nI (uN u))])), ((ad 2), aF q 6 (fun j => if j < uN u then some (uO u j) else none)), ((ad 1), .inr (1, [.ref (ad 3), .ref (ad 4), .ref (ad 5), .ref (ad 6), .ref (ad 7), .double (uM u), .int (nI (uT u))])), ((ad 3), aI q 8 (uP u)), ((ad 4), aD q 8 (fun i => FP.i2d (uX u i))), ((ad 5), aD q 16 (fun i => FP.i2d (uA u i))), ((ad 6), aD q 16 (fun i => FP.i2d (uB u i))), ((ad 7), aD q 16 (uF u))]) [0, 1, 2, 3, 4, 5, 6, 7] rfl
        have hDc := hD.part (cx := [((ad 0), .inr (3, [.ref (ad 1), .ref (ad 2), .int (nI (uN u))])), ((ad 2), aF q 6 (fun j => if j < uN u then some (uO u j) else none)), ((ad 1), .inr (1, [.ref (ad 3), .ref (ad 4), .ref (ad 5), .ref (ad 6), .ref (ad 7), .double (uM u), .int (nI (uT u))])), ((ad 3), aI q 8 (uP u)), ((ad 4), aD q 8 (fun i => FP.i2d (uX u i))), ((ad 5), aD q 16 (fun i => FP.i2d (uA u i))), ((ad 6), aD q 16 (fun i => FP.i2d (uB u i))), ((ad 7), aD q 16 (uF u))]) [0, 1, 2, 3, 4, 5, 6, 7] (by decide) rfl
        have hFc := va_freeP (cx := [((ad 0), .inr (3, [.ref (ad 1), .ref (ad 2), .int (nI (uN u))])), ((ad 2), aF q 6 (fun j => if j < uN u then some (uO u j) else none)), ((ad 1), .inr (1, [.ref (ad 3), .ref (ad 4), .ref (ad 5), .ref (ad 6), .ref (ad 7), .double (uM u), .int (nI (uT u))])), ((ad 3), aI q 8 (uP u)), ((ad 4), aD q 8 (fun i => FP.i2d (uX u i))), ((ad 5), aD q 16 (fun i => FP.i2d (uA u i))), ((ad 6), aD q 16 (fun i => FP.i2d (uB u i))), ((ad 7), aD q 16 (uF u))]) hD hS hA [0, 1, 2, 3, 4, 5, 6, 7] rfl
        refine va_calllD hd0 (swd_run (As := [.ref (ad 0), .int ((lowV (v >>> (9 &&& 31)) 900) - 450), .int 0]) (rest := []) ⟨hx, hb, hml, hown, (dr_words hts s.drawn)⟩ (h_feed hst ((lowV (v >>> (9 &&& 31)) 900) - 450) 0 G q H.size ad V u hu) (vx_cwSW 3 (dr_words hts s.drawn) gL_act_L_feed rfl rfl rfl (by decide +kernel) ⟨Nat.le_of_ble_eq_true rfl, Nat.le_of_ble_eq_true rfl⟩) ⟨preY_blind, preY_start (s := s.setDrawn s.drawn) hPc hK hDc (hNF.drawn s.drawn) (hNT.drawn s.drawn) (hNC.drawn s.drawn) hS (fun q h => hFc q h)⟩ rfl rfl hl.1 rfl (lv_room (Nat.le_of_ble_eq_true rfl)) dL_act_476 ⟨(by show _ ≤ 11; omega), (by show _ ≤ 73; omega)⟩) hS (fun q _ h => hFc q h) hFc (fun r1 u9 t9 H1 locs ht9 hv99 hw hB9 hz9 hk9 hS du166 hu166 => ?_)
        obtain ⟨u1, rfl⟩ : ∃ z, z = u9 := ⟨_, rfl⟩
        obtain ⟨hP1, hD1⟩ := hB9
        rw [ht9] at hP1
        obtain ⟨hP, hD⟩ := va_joinP (wr := []) (rx := [((ad 0), .inr (3, [.ref (ad 1), .ref (ad 2), .int (nI (uN u1))])), ((ad 2), aF q 6 (fun j => if j < uN u1 then some (uO u1 j) else none)), ((ad 1), .inr (1, [.ref (ad 3), .ref (ad 4), .ref (ad 5), .ref (ad 6), .ref (ad 7), .double (uM u1), .int (nI (uT u1))])), ((ad 3), aI q 8 (uP u1)), ((ad 4), aD q 8 (fun i => FP.i2d (uX u1 i))), ((ad 5), aD q 16 (fun i => FP.i2d (uA u1 i))), ((ad 6), aD q 16 (fun i => FP.i2d (uB u1 i))), ((ad 7), aD q 16 (uF u1))]) (pl1 := TW (uN u1) (WQ q (uC u1))) hP hD [0, 1, 2, 3, 4, 5, 6, 7] [] rfl rfl (by decide) (by decide) hk9 hFc hP1 hD1
        generalize H1 = H at hP hS ⊢
        have hP : va_P G vwCl ([((ad 0), .inr (3, [.ref (ad 1), .ref (ad 2), .int (nI (uN u1))])), ((ad 2), aF q 6 (fun j => if j < uN u1 then some (uO u1 j) else none)), ((ad 1), .inr (1, [.ref (ad 3), .ref (ad 4), .ref (ad 5), .ref (ad 6), .ref (ad 7), .double (uM u1), .int (nI (uT u1))])), ((ad 3), aI q 8 (uP u1)), ((ad 4), aD q 8 (fun i => FP.i2d (uX u1 i))), ((ad 5), aD q 16 (fun i => FP.i2d (uA u1 i))), ((ad 6), aD q 16 (fun i => FP.i2d (uB u1 i))), ((ad 7), aD q 16 (uF u1))] ++ TW (uN u1) (WQ q (uC u1))) H := hP
        have hD : va_D A ([((ad 0), .inr (3, [.ref (ad 1), .ref (ad 2), .int (nI (uN u1))])), ((ad 2), aF q 6 (fun j => if j < uN u1 then some (uO u1 j) else none)), ((ad 1), .inr (1, [.ref (ad 3), .ref (ad 4), .ref (ad 5), .ref (ad 6), .ref (ad 7), .double (uM u1), .int (nI (uT u1))])), ((ad 3), aI q 8 (uP u1)), ((ad 4), aD q 8 (fun i => FP.i2d (uX u1 i))), ((ad 5), aD q 16 (fun i => FP.i2d (uA u1 i))), ((ad 6), aD q 16 (fun i => FP.i2d (uB u1 i))), ((ad 7), aD q 16 (uF u1))] ++ TW (uN u1) (WQ q (uC u1))) := hD
        have hA : vAct v V = vFeed ((lowV (v >>> (9 &&& 31)) 900) - 450) 0 V := by unfold vAct; rw [if_neg hcnd1]; unfold actE; rw [← hcs]; rw [selV_12]; rw [if_neg hcnd10]
        rw [← hA] at hw
        refine W.widen (k := 11) (n := 73) (Nat.le_of_ble_eq_true rfl) (Nat.le_of_ble_eq_true rfl) ?_
        have hP9 := hP
        have hD9 := hD
        refine W.endD hu166 ?_
        exact W.lret (v := r1) hx hb hr (fun t ht hW => ⟨⟨r1, u1, rfl, hw, by rw [ht]; exact hP9, hD9⟩, hS.F ht⟩) hS.2.2 dL_act_479
    · skip
      refine lv_tableIn (off := 303) (tgt := 435) hx hb dL_act_132 (by decide) (by decide) (by decide) (by decide) ?_
      refine lv_aload_n hx hb dL_act_435 rfl (lv_at hl 5 rfl) ?_
      refine lv_iload hx hb dL_act_436 (lv_at hl 1 rfl) ?_
      refine lv_iload_n hx hb dL_act_438 rfl (lv_at hl 4 rfl) ?_
      refine lv_if_eq (tgt := 448) hx hb dL_act_439 (by decide) (fun _ => ?_) (fun h => absurd (by decide) h)
      refine lv_iload_n hx hb dL_act_448 rfl (lv_at hl 6 rfl) ?_
      refine lv_bipush (v := 17) hx hb dL_act_449 (by decide) ?_
      refine lv_ishr hx hb dL_act_451 ?_
      refine lv_iconst (v := 3) hx hb dL_act_452 (by decide) ?_
      have hPc := hP.sub (ws' := []) [] rfl
      have hDc := hD.sub (ws' := []) [] (by decide) rfl
      have hFc := va_free (wc := []) hD hS hA [] rfl
      refine va_calli (va_runS (As := [.int (v >>> (17 &&& 31)), .int 3]) (rest := [.int ((lowV (v >>> (9 &&& 31)) 900) - 450), .ref (ad 0)]) ⟨hx, hb, hml, hown, (dr_words hts s.drawn)⟩ (m_L_low l G q H.size (v >>> (17 &&& 31)) 3 (by decide)) (va_cwS 2 (dr_words hts s.drawn) gL_act_L_low rfl rfl rfl (by decide +kernel) ⟨Nat.le_of_ble_eq_true rfl, Nat.le_of_ble_eq_true rfl⟩) ⟨preW_blind, preW_start (s := s.setDrawn s.drawn) hPc hK hDc (hNF.drawn s.drawn)⟩ rfl rfl hl.1 rfl (lv_room (Nat.le_of_ble_eq_true rfl)) dL_act_453 ⟨(by show _ ≤ 11; omega), (by show _ ≤ 73; omega)⟩) hS (fun q _ h => hFc q h) hFc (fun rl u9 t9 H1 locs ht9 hv9 hw hB9 hz9 hk9 hS => ?_)
      obtain ⟨⟩ := u9
      obtain ⟨hP1, hD1⟩ := hB9
      rw [ht9] at hP1
      obtain ⟨hP, hD⟩ := va_joinQ (wr := [((ad 0), .inr (3, [.ref (ad 1), .ref (ad 2), .int (nI (uN u))])), ((ad 2), aF q 6 (fun j => if j < uN u then some (uO u j) else none)), ((ad 1), .inr (1, [.ref (ad 3), .ref (ad 4), .ref (ad 5), .ref (ad 6), .ref (ad 7), .double (uM u), .int (nI (uT u))])), ((ad 3), aI q 8 (uP u)), ((ad 4), aD q 8 (fun i => FP.i2d (uX u i))), ((ad 5), aD q 16 (fun i => FP.i2d (uA u i))), ((ad 6), aD q 16 (fun i => FP.i2d (uB u i))), ((ad 7), aD q 16 (uF u))]) (w1 := []) hP hD [] [0, 1, 2, 3, 4, 5, 6, 7] rfl rfl (by decide) (by decide) hk9 hFc hP1 hD1
      generalize H1 = H at hP hS ⊢
      have hP : va_P G vwCl ([((ad 0), .inr (3, [.ref (ad 1), .ref (ad 2), .int (nI (uN u))])), ((ad 2), aF q 6 (fun j => if j < uN u then some (uO u j) else none)), ((ad 1), .inr (1, [.ref (ad 3), .ref (ad 4), .ref (ad 5), .ref (ad 6), .ref (ad 7), .double (uM u), .int (nI (uT u))])), ((ad 3), aI q 8 (uP u)), ((ad 4), aD q 8 (fun i => FP.i2d (uX u i))), ((ad 5), aD q 16 (fun i => FP.i2d (uA u i))), ((ad 6), aD q 16 (fun i => FP.i2d (uB u i))), ((ad 7), aD q 16 (uF u))] ++ TW (uN u) (WQ q (uC u))) H := hP
      have hD : va_D A ([((ad 0), .inr (3, [.ref (ad 1), .ref (ad 2), .int (nI (uN u))])), ((ad 2), aF q 6 (fun j => if j < uN u then some (uO u j) else none)), ((ad 1), .inr (1, [.ref (ad 3), .ref (ad 4), .ref (ad 5), .ref (ad 6), .ref (ad 7), .double (uM u), .int (nI (uT u))])), ((ad 3), aI q 8 (uP u)), ((ad 4), aD q 8 (fun i => FP.i2d (uX u i))), ((ad 5), aD q 16 (fun i => FP.i2d (uA u i))), ((ad 6), aD q 16 (fun i => FP.i2d (uB u i))), ((ad 7), aD q 16 (uF u))] ++ TW (uN u) (WQ q (uC u))) := hD
      try dsimp only at hw
      subst hw
      by_cases hcnd11 : (lowV (v >>> (17 &&& 31)) 3) = 0
      · skip
        refine lv_if_ne (tgt := 475) hx hb dL_act_456 (by decide) (fun h => absurd hcnd11 h) (fun _ => ?_)
        refine lv_iload_n hx hb dL_act_459 rfl (lv_at hl 6 rfl) ?_
        refine lv_iconst (v := 4) hx hb dL_act_460 (by decide) ?_
        refine lv_ishr hx hb dL_act_461 ?_
        refine lv_sipush (v := 400) hx hb dL_act_462 (by decide) ?_
        have hPc := hP.sub (ws' := []) [] rfl
        have hDc := hD.sub (ws' := []) [] (by decide) rfl
        have hFc := va_free (wc := []) hD hS hA [] rfl
        refine va_calli (va_runS (As := [.int (v >>> (4 &&& 31)), .int 400]) (rest := [.int ((lowV (v >>> (9 &&& 31)) 900) - 450), .ref (ad 0)]) ⟨hx, hb, hml, hown, (dr_words hts s.drawn)⟩ (m_L_low l G q H.size (v >>> (4 &&& 31)) 400 (by decide)) (va_cwS 2 (dr_words hts s.drawn) gL_act_L_low rfl rfl rfl (by decide +kernel) ⟨Nat.le_of_ble_eq_true rfl, Nat.le_of_ble_eq_true rfl⟩) ⟨preW_blind, preW_start (s := s.setDrawn s.drawn) hPc hK hDc (hNF.drawn s.drawn)⟩ rfl rfl hl.1 rfl (lv_room (Nat.le_of_ble_eq_true rfl)) dL_act_465 ⟨(by show _ ≤ 11; omega), (by show _ ≤ 73; omega)⟩) hS (fun q _ h => hFc q h) hFc (fun rl u9 t9 H1 locs ht9 hv9 hw hB9 hz9 hk9 hS => ?_)
        obtain ⟨⟩ := u9
        obtain ⟨hP1, hD1⟩ := hB9
        rw [ht9] at hP1
        obtain ⟨hP, hD⟩ := va_joinQ (wr := [((ad 0), .inr (3, [.ref (ad 1), .ref (ad 2), .int (nI (uN u))])), ((ad 2), aF q 6 (fun j => if j < uN u then some (uO u j) else none)), ((ad 1), .inr (1, [.ref (ad 3), .ref (ad 4), .ref (ad 5), .ref (ad 6), .ref (ad 7), .double (uM u), .int (nI (uT u))])), ((ad 3), aI q 8 (uP u)), ((ad 4), aD q 8 (fun i => FP.i2d (uX u i))), ((ad 5), aD q 16 (fun i => FP.i2d (uA u i))), ((ad 6), aD q 16 (fun i => FP.i2d (uB u i))), ((ad 7), aD q 16 (uF u))]) (w1 := []) hP hD [] [0, 1, 2, 3, 4, 5, 6, 7] rfl rfl (by decide) (by decide) hk9 hFc hP1 hD1
        generalize H1 = H at hP hS ⊢
        have hP : va_P G vwCl ([((ad 0), .inr (3, [.ref (ad 1), .ref (ad 2), .int (nI (uN u))])), ((ad 2), aF q 6 (fun j => if j < uN u then some (uO u j) else none)), ((ad 1), .inr (1, [.ref (ad 3), .ref (ad 4), .ref (ad 5), .ref (ad 6), .ref (ad 7), .double (uM u), .int (nI (uT u))])), ((ad 3), aI q 8 (uP u)), ((ad 4), aD q 8 (fun i => FP.i2d (uX u i))), ((ad 5), aD q 16 (fun i => FP.i2d (uA u i))), ((ad 6), aD q 16 (fun i => FP.i2d (uB u i))), ((ad 7), aD q 16 (uF u))] ++ TW (uN u) (WQ q (uC u))) H := hP
        have hD : va_D A ([((ad 0), .inr (3, [.ref (ad 1), .ref (ad 2), .int (nI (uN u))])), ((ad 2), aF q 6 (fun j => if j < uN u then some (uO u j) else none)), ((ad 1), .inr (1, [.ref (ad 3), .ref (ad 4), .ref (ad 5), .ref (ad 6), .ref (ad 7), .double (uM u), .int (nI (uT u))])), ((ad 3), aI q 8 (uP u)), ((ad 4), aD q 8 (fun i => FP.i2d (uX u i))), ((ad 5), aD q 16 (fun i => FP.i2d (uA u i))), ((ad 6), aD q 16 (fun i => FP.i2d (uB u i))), ((ad 7), aD q 16 (uF u))] ++ TW (uN u) (WQ q (uC u))) := hD
        try dsimp only at hw
        subst hw
        refine lv_sipush (v := 200) hx hb dL_act_468 (by decide) ?_
        refine lv_isub hx hb dL_act_471 ?_
        refine lv_topi (fun x171 ex171 => ?_)
        obtain rfl : x171 = ((lowV (v >>> (4 &&& 31)) 400) - 200) := ex171
        refine lv_goto (tgt := 476) hx hb dL_act_472 (by decide) ?_
        have hPc := hP.part (cx := [((ad 0), .inr (3, [.ref (ad 1), .ref (ad 2), .int (nI (uN u))])), ((ad 2), aF q 6 (fun j => if j < uN u then some (uO u j) else none)), ((ad 1), .inr (1, [.ref (ad 3), .ref (ad 4), .ref (ad 5), .ref (ad 6), .ref (ad 7), .double (uM u), .int (nI (uT u))])), ((ad 3), aI q 8 (uP u)), ((ad 4), aD q 8 (fun i => FP.i2d (uX u i))), ((ad 5), aD q 16 (fun i => FP.i2d (uA u i))), ((ad 6), aD q 16 (fun i => FP.i2d (uB u i))), ((ad 7), aD q 16 (uF u))]) [0, 1, 2, 3, 4, 5, 6, 7] rfl
        have hDc := hD.part (cx := [((ad 0), .inr (3, [.ref (ad 1), .ref (ad 2), .int (nI (uN u))])), ((ad 2), aF q 6 (fun j => if j < uN u then some (uO u j) else none)), ((ad 1), .inr (1, [.ref (ad 3), .ref (ad 4), .ref (ad 5), .ref (ad 6), .ref (ad 7), .double (uM u), .int (nI (uT u))])), ((ad 3), aI q 8 (uP u)), ((ad 4), aD q 8 (fun i => FP.i2d (uX u i))), ((ad 5), aD q 16 (fun i => FP.i2d (uA u i))), ((ad 6), aD q 16 (fun i => FP.i2d (uB u i))), ((ad 7), aD q 16 (uF u))]) [0, 1, 2, 3, 4, 5, 6, 7] (by decide) rfl
        have hFc := va_freeP (cx := [((ad 0), .inr (3, [.ref (ad 1), .ref (ad 2), .int (nI (uN u))])), ((ad 2), aF q 6 (fun j => if j < uN u then some (uO u j) else none)), ((ad 1), .inr (1, [.ref (ad 3), .ref (ad 4), .ref (ad 5), .ref (ad 6), .ref (ad 7), .double (uM u), .int (nI (uT u))])), ((ad 3), aI q 8 (uP u)), ((ad 4), aD q 8 (fun i => FP.i2d (uX u i))), ((ad 5), aD q 16 (fun i => FP.i2d (uA u i))), ((ad 6), aD q 16 (fun i => FP.i2d (uB u i))), ((ad 7), aD q 16 (uF u))]) hD hS hA [0, 1, 2, 3, 4, 5, 6, 7] rfl
        refine va_calllD hd0 (swd_run (As := [.ref (ad 0), .int ((lowV (v >>> (9 &&& 31)) 900) - 450), .int ((lowV (v >>> (4 &&& 31)) 400) - 200)]) (rest := []) ⟨hx, hb, hml, hown, (dr_words hts s.drawn)⟩ (h_feed hst ((lowV (v >>> (9 &&& 31)) 900) - 450) ((lowV (v >>> (4 &&& 31)) 400) - 200) G q H.size ad V u hu) (vx_cwSW 3 (dr_words hts s.drawn) gL_act_L_feed rfl rfl rfl (by decide +kernel) ⟨Nat.le_of_ble_eq_true rfl, Nat.le_of_ble_eq_true rfl⟩) ⟨preY_blind, preY_start (s := s.setDrawn s.drawn) hPc hK hDc (hNF.drawn s.drawn) (hNT.drawn s.drawn) (hNC.drawn s.drawn) hS (fun q h => hFc q h)⟩ rfl rfl hl.1 rfl (lv_room (Nat.le_of_ble_eq_true rfl)) dL_act_476 ⟨(by show _ ≤ 11; omega), (by show _ ≤ 73; omega)⟩) hS (fun q _ h => hFc q h) hFc (fun r1 u9 t9 H1 locs ht9 hv99 hw hB9 hz9 hk9 hS du172 hu172 => ?_)
        obtain ⟨u1, rfl⟩ : ∃ z, z = u9 := ⟨_, rfl⟩
        obtain ⟨hP1, hD1⟩ := hB9
        rw [ht9] at hP1
        obtain ⟨hP, hD⟩ := va_joinP (wr := []) (rx := [((ad 0), .inr (3, [.ref (ad 1), .ref (ad 2), .int (nI (uN u1))])), ((ad 2), aF q 6 (fun j => if j < uN u1 then some (uO u1 j) else none)), ((ad 1), .inr (1, [.ref (ad 3), .ref (ad 4), .ref (ad 5), .ref (ad 6), .ref (ad 7), .double (uM u1), .int (nI (uT u1))])), ((ad 3), aI q 8 (uP u1)), ((ad 4), aD q 8 (fun i => FP.i2d (uX u1 i))), ((ad 5), aD q 16 (fun i => FP.i2d (uA u1 i))), ((ad 6), aD q 16 (fun i => FP.i2d (uB u1 i))), ((ad 7), aD q 16 (uF u1))]) (pl1 := TW (uN u1) (WQ q (uC u1))) hP hD [0, 1, 2, 3, 4, 5, 6, 7] [] rfl rfl (by decide) (by decide) hk9 hFc hP1 hD1
        generalize H1 = H at hP hS ⊢
        have hP : va_P G vwCl ([((ad 0), .inr (3, [.ref (ad 1), .ref (ad 2), .int (nI (uN u1))])), ((ad 2), aF q 6 (fun j => if j < uN u1 then some (uO u1 j) else none)), ((ad 1), .inr (1, [.ref (ad 3), .ref (ad 4), .ref (ad 5), .ref (ad 6), .ref (ad 7), .double (uM u1), .int (nI (uT u1))])), ((ad 3), aI q 8 (uP u1)), ((ad 4), aD q 8 (fun i => FP.i2d (uX u1 i))), ((ad 5), aD q 16 (fun i => FP.i2d (uA u1 i))), ((ad 6), aD q 16 (fun i => FP.i2d (uB u1 i))), ((ad 7), aD q 16 (uF u1))] ++ TW (uN u1) (WQ q (uC u1))) H := hP
        have hD : va_D A ([((ad 0), .inr (3, [.ref (ad 1), .ref (ad 2), .int (nI (uN u1))])), ((ad 2), aF q 6 (fun j => if j < uN u1 then some (uO u1 j) else none)), ((ad 1), .inr (1, [.ref (ad 3), .ref (ad 4), .ref (ad 5), .ref (ad 6), .ref (ad 7), .double (uM u1), .int (nI (uT u1))])), ((ad 3), aI q 8 (uP u1)), ((ad 4), aD q 8 (fun i => FP.i2d (uX u1 i))), ((ad 5), aD q 16 (fun i => FP.i2d (uA u1 i))), ((ad 6), aD q 16 (fun i => FP.i2d (uB u1 i))), ((ad 7), aD q 16 (uF u1))] ++ TW (uN u1) (WQ q (uC u1))) := hD
        have hA : vAct v V = vFeed ((lowV (v >>> (9 &&& 31)) 900) - 450) ((lowV (v >>> (4 &&& 31)) 400) - 200) V := by unfold vAct; rw [if_neg hcnd1]; unfold actE; rw [← hcs]; rw [selV_13]; rw [if_pos hcnd11]
        rw [← hA] at hw
        refine W.widen (k := 11) (n := 73) (Nat.le_of_ble_eq_true rfl) (Nat.le_of_ble_eq_true rfl) ?_
        have hP9 := hP
        have hD9 := hD
        refine W.endD hu172 ?_
        exact W.lret (v := r1) hx hb hr (fun t ht hW => ⟨⟨r1, u1, rfl, hw, by rw [ht]; exact hP9, hD9⟩, hS.F ht⟩) hS.2.2 dL_act_479
      · skip
        refine lv_if_ne (tgt := 475) hx hb dL_act_456 (by decide) (fun _ => ?_) (fun h => absurd h hcnd11)
        refine lv_iconst (v := 0) hx hb dL_act_475 (by decide) ?_
        have hPc := hP.part (cx := [((ad 0), .inr (3, [.ref (ad 1), .ref (ad 2), .int (nI (uN u))])), ((ad 2), aF q 6 (fun j => if j < uN u then some (uO u j) else none)), ((ad 1), .inr (1, [.ref (ad 3), .ref (ad 4), .ref (ad 5), .ref (ad 6), .ref (ad 7), .double (uM u), .int (nI (uT u))])), ((ad 3), aI q 8 (uP u)), ((ad 4), aD q 8 (fun i => FP.i2d (uX u i))), ((ad 5), aD q 16 (fun i => FP.i2d (uA u i))), ((ad 6), aD q 16 (fun i => FP.i2d (uB u i))), ((ad 7), aD q 16 (uF u))]) [0, 1, 2, 3, 4, 5, 6, 7] rfl
        have hDc := hD.part (cx := [((ad 0), .inr (3, [.ref (ad 1), .ref (ad 2), .int (nI (uN u))])), ((ad 2), aF q 6 (fun j => if j < uN u then some (uO u j) else none)), ((ad 1), .inr (1, [.ref (ad 3), .ref (ad 4), .ref (ad 5), .ref (ad 6), .ref (ad 7), .double (uM u), .int (nI (uT u))])), ((ad 3), aI q 8 (uP u)), ((ad 4), aD q 8 (fun i => FP.i2d (uX u i))), ((ad 5), aD q 16 (fun i => FP.i2d (uA u i))), ((ad 6), aD q 16 (fun i => FP.i2d (uB u i))), ((ad 7), aD q 16 (uF u))]) [0, 1, 2, 3, 4, 5, 6, 7] (by decide) rfl
        have hFc := va_freeP (cx := [((ad 0), .inr (3, [.ref (ad 1), .ref (ad 2), .int (nI (uN u))])), ((ad 2), aF q 6 (fun j => if j < uN u then some (uO u j) else none)), ((ad 1), .inr (1, [.ref (ad 3), .ref (ad 4), .ref (ad 5), .ref (ad 6), .ref (ad 7), .double (uM u), .int (nI (uT u))])), ((ad 3), aI q 8 (uP u)), ((ad 4), aD q 8 (fun i => FP.i2d (uX u i))), ((ad 5), aD q 16 (fun i => FP.i2d (uA u i))), ((ad 6), aD q 16 (fun i => FP.i2d (uB u i))), ((ad 7), aD q 16 (uF u))]) hD hS hA [0, 1, 2, 3, 4, 5, 6, 7] rfl
        refine va_calllD hd0 (swd_run (As := [.ref (ad 0), .int ((lowV (v >>> (9 &&& 31)) 900) - 450), .int 0]) (rest := []) ⟨hx, hb, hml, hown, (dr_words hts s.drawn)⟩ (h_feed hst ((lowV (v >>> (9 &&& 31)) 900) - 450) 0 G q H.size ad V u hu) (vx_cwSW 3 (dr_words hts s.drawn) gL_act_L_feed rfl rfl rfl (by decide +kernel) ⟨Nat.le_of_ble_eq_true rfl, Nat.le_of_ble_eq_true rfl⟩) ⟨preY_blind, preY_start (s := s.setDrawn s.drawn) hPc hK hDc (hNF.drawn s.drawn) (hNT.drawn s.drawn) (hNC.drawn s.drawn) hS (fun q h => hFc q h)⟩ rfl rfl hl.1 rfl (lv_room (Nat.le_of_ble_eq_true rfl)) dL_act_476 ⟨(by show _ ≤ 11; omega), (by show _ ≤ 73; omega)⟩) hS (fun q _ h => hFc q h) hFc (fun r1 u9 t9 H1 locs ht9 hv99 hw hB9 hz9 hk9 hS du174 hu174 => ?_)
        obtain ⟨u1, rfl⟩ : ∃ z, z = u9 := ⟨_, rfl⟩
        obtain ⟨hP1, hD1⟩ := hB9
        rw [ht9] at hP1
        obtain ⟨hP, hD⟩ := va_joinP (wr := []) (rx := [((ad 0), .inr (3, [.ref (ad 1), .ref (ad 2), .int (nI (uN u1))])), ((ad 2), aF q 6 (fun j => if j < uN u1 then some (uO u1 j) else none)), ((ad 1), .inr (1, [.ref (ad 3), .ref (ad 4), .ref (ad 5), .ref (ad 6), .ref (ad 7), .double (uM u1), .int (nI (uT u1))])), ((ad 3), aI q 8 (uP u1)), ((ad 4), aD q 8 (fun i => FP.i2d (uX u1 i))), ((ad 5), aD q 16 (fun i => FP.i2d (uA u1 i))), ((ad 6), aD q 16 (fun i => FP.i2d (uB u1 i))), ((ad 7), aD q 16 (uF u1))]) (pl1 := TW (uN u1) (WQ q (uC u1))) hP hD [0, 1, 2, 3, 4, 5, 6, 7] [] rfl rfl (by decide) (by decide) hk9 hFc hP1 hD1
        generalize H1 = H at hP hS ⊢
        have hP : va_P G vwCl ([((ad 0), .inr (3, [.ref (ad 1), .ref (ad 2), .int (nI (uN u1))])), ((ad 2), aF q 6 (fun j => if j < uN u1 then some (uO u1 j) else none)), ((ad 1), .inr (1, [.ref (ad 3), .ref (ad 4), .ref (ad 5), .ref (ad 6), .ref (ad 7), .double (uM u1), .int (nI (uT u1))])), ((ad 3), aI q 8 (uP u1)), ((ad 4), aD q 8 (fun i => FP.i2d (uX u1 i))), ((ad 5), aD q 16 (fun i => FP.i2d (uA u1 i))), ((ad 6), aD q 16 (fun i => FP.i2d (uB u1 i))), ((ad 7), aD q 16 (uF u1))] ++ TW (uN u1) (WQ q (uC u1))) H := hP
        have hD : va_D A ([((ad 0), .inr (3, [.ref (ad 1), .ref (ad 2), .int (nI (uN u1))])), ((ad 2), aF q 6 (fun j => if j < uN u1 then some (uO u1 j) else none)), ((ad 1), .inr (1, [.ref (ad 3), .ref (ad 4), .ref (ad 5), .ref (ad 6), .ref (ad 7), .double (uM u1), .int (nI (uT u1))])), ((ad 3), aI q 8 (uP u1)), ((ad 4), aD q 8 (fun i => FP.i2d (uX u1 i))), ((ad 5), aD q 16 (fun i => FP.i2d (uA u1 i))), ((ad 6), aD q 16 (fun i => FP.i2d (uB u1 i))), ((ad 7), aD q 16 (uF u1))] ++ TW (uN u1) (WQ q (uC u1))) := hD
        have hA : vAct v V = vFeed ((lowV (v >>> (9 &&& 31)) 900) - 450) 0 V := by unfold vAct; rw [if_neg hcnd1]; unfold actE; rw [← hcs]; rw [selV_13]; rw [if_neg hcnd11]
        rw [← hA] at hw
        refine W.widen (k := 11) (n := 73) (Nat.le_of_ble_eq_true rfl) (Nat.le_of_ble_eq_true rfl) ?_
        have hP9 := hP
        have hD9 := hD
        refine W.endD hu174 ?_
        exact W.lret (v := r1) hx hb hr (fun t ht hW => ⟨⟨r1, u1, rfl, hw, by rw [ht]; exact hP9, hD9⟩, hS.F ht⟩) hS.2.2 dL_act_479
    · skip
      refine lv_tableIn (off := 303) (tgt := 435) hx hb dL_act_132 (by decide) (by decide) (by decide) (by decide) ?_
      refine lv_aload_n hx hb dL_act_435 rfl (lv_at hl 5 rfl) ?_
      refine lv_iload hx hb dL_act_436 (lv_at hl 1 rfl) ?_
      refine lv_iload_n hx hb dL_act_438 rfl (lv_at hl 4 rfl) ?_
      refine lv_if_eq (tgt := 448) hx hb dL_act_439 (by decide) (fun _ => ?_) (fun h => absurd (by decide) h)
      refine lv_iload_n hx hb dL_act_448 rfl (lv_at hl 6 rfl) ?_
      refine lv_bipush (v := 17) hx hb dL_act_449 (by decide) ?_
      refine lv_ishr hx hb dL_act_451 ?_
      refine lv_iconst (v := 3) hx hb dL_act_452 (by decide) ?_
      have hPc := hP.sub (ws' := []) [] rfl
      have hDc := hD.sub (ws' := []) [] (by decide) rfl
      have hFc := va_free (wc := []) hD hS hA [] rfl
      refine va_calli (va_runS (As := [.int (v >>> (17 &&& 31)), .int 3]) (rest := [.int ((lowV (v >>> (9 &&& 31)) 900) - 450), .ref (ad 0)]) ⟨hx, hb, hml, hown, (dr_words hts s.drawn)⟩ (m_L_low l G q H.size (v >>> (17 &&& 31)) 3 (by decide)) (va_cwS 2 (dr_words hts s.drawn) gL_act_L_low rfl rfl rfl (by decide +kernel) ⟨Nat.le_of_ble_eq_true rfl, Nat.le_of_ble_eq_true rfl⟩) ⟨preW_blind, preW_start (s := s.setDrawn s.drawn) hPc hK hDc (hNF.drawn s.drawn)⟩ rfl rfl hl.1 rfl (lv_room (Nat.le_of_ble_eq_true rfl)) dL_act_453 ⟨(by show _ ≤ 11; omega), (by show _ ≤ 73; omega)⟩) hS (fun q _ h => hFc q h) hFc (fun rl u9 t9 H1 locs ht9 hv9 hw hB9 hz9 hk9 hS => ?_)
      obtain ⟨⟩ := u9
      obtain ⟨hP1, hD1⟩ := hB9
      rw [ht9] at hP1
      obtain ⟨hP, hD⟩ := va_joinQ (wr := [((ad 0), .inr (3, [.ref (ad 1), .ref (ad 2), .int (nI (uN u))])), ((ad 2), aF q 6 (fun j => if j < uN u then some (uO u j) else none)), ((ad 1), .inr (1, [.ref (ad 3), .ref (ad 4), .ref (ad 5), .ref (ad 6), .ref (ad 7), .double (uM u), .int (nI (uT u))])), ((ad 3), aI q 8 (uP u)), ((ad 4), aD q 8 (fun i => FP.i2d (uX u i))), ((ad 5), aD q 16 (fun i => FP.i2d (uA u i))), ((ad 6), aD q 16 (fun i => FP.i2d (uB u i))), ((ad 7), aD q 16 (uF u))]) (w1 := []) hP hD [] [0, 1, 2, 3, 4, 5, 6, 7] rfl rfl (by decide) (by decide) hk9 hFc hP1 hD1
      generalize H1 = H at hP hS ⊢
      have hP : va_P G vwCl ([((ad 0), .inr (3, [.ref (ad 1), .ref (ad 2), .int (nI (uN u))])), ((ad 2), aF q 6 (fun j => if j < uN u then some (uO u j) else none)), ((ad 1), .inr (1, [.ref (ad 3), .ref (ad 4), .ref (ad 5), .ref (ad 6), .ref (ad 7), .double (uM u), .int (nI (uT u))])), ((ad 3), aI q 8 (uP u)), ((ad 4), aD q 8 (fun i => FP.i2d (uX u i))), ((ad 5), aD q 16 (fun i => FP.i2d (uA u i))), ((ad 6), aD q 16 (fun i => FP.i2d (uB u i))), ((ad 7), aD q 16 (uF u))] ++ TW (uN u) (WQ q (uC u))) H := hP
      have hD : va_D A ([((ad 0), .inr (3, [.ref (ad 1), .ref (ad 2), .int (nI (uN u))])), ((ad 2), aF q 6 (fun j => if j < uN u then some (uO u j) else none)), ((ad 1), .inr (1, [.ref (ad 3), .ref (ad 4), .ref (ad 5), .ref (ad 6), .ref (ad 7), .double (uM u), .int (nI (uT u))])), ((ad 3), aI q 8 (uP u)), ((ad 4), aD q 8 (fun i => FP.i2d (uX u i))), ((ad 5), aD q 16 (fun i => FP.i2d (uA u i))), ((ad 6), aD q 16 (fun i => FP.i2d (uB u i))), ((ad 7), aD q 16 (uF u))] ++ TW (uN u) (WQ q (uC u))) := hD
      try dsimp only at hw
      subst hw
      by_cases hcnd12 : (lowV (v >>> (17 &&& 31)) 3) = 0
      · skip
        refine lv_if_ne (tgt := 475) hx hb dL_act_456 (by decide) (fun h => absurd hcnd12 h) (fun _ => ?_)
        refine lv_iload_n hx hb dL_act_459 rfl (lv_at hl 6 rfl) ?_
        refine lv_iconst (v := 4) hx hb dL_act_460 (by decide) ?_
        refine lv_ishr hx hb dL_act_461 ?_
        refine lv_sipush (v := 400) hx hb dL_act_462 (by decide) ?_
        have hPc := hP.sub (ws' := []) [] rfl
        have hDc := hD.sub (ws' := []) [] (by decide) rfl
        have hFc := va_free (wc := []) hD hS hA [] rfl
        refine va_calli (va_runS (As := [.int (v >>> (4 &&& 31)), .int 400]) (rest := [.int ((lowV (v >>> (9 &&& 31)) 900) - 450), .ref (ad 0)]) ⟨hx, hb, hml, hown, (dr_words hts s.drawn)⟩ (m_L_low l G q H.size (v >>> (4 &&& 31)) 400 (by decide)) (va_cwS 2 (dr_words hts s.drawn) gL_act_L_low rfl rfl rfl (by decide +kernel) ⟨Nat.le_of_ble_eq_true rfl, Nat.le_of_ble_eq_true rfl⟩) ⟨preW_blind, preW_start (s := s.setDrawn s.drawn) hPc hK hDc (hNF.drawn s.drawn)⟩ rfl rfl hl.1 rfl (lv_room (Nat.le_of_ble_eq_true rfl)) dL_act_465 ⟨(by show _ ≤ 11; omega), (by show _ ≤ 73; omega)⟩) hS (fun q _ h => hFc q h) hFc (fun rl u9 t9 H1 locs ht9 hv9 hw hB9 hz9 hk9 hS => ?_)
        obtain ⟨⟩ := u9
        obtain ⟨hP1, hD1⟩ := hB9
        rw [ht9] at hP1
        obtain ⟨hP, hD⟩ := va_joinQ (wr := [((ad 0), .inr (3, [.ref (ad 1), .ref (ad 2), .int (nI (uN u))])), ((ad 2), aF q 6 (fun j => if j < uN u then some (uO u j) else none)), ((ad 1), .inr (1, [.ref (ad 3), .ref (ad 4), .ref (ad 5), .ref (ad 6), .ref (ad 7), .double (uM u), .int (nI (uT u))])), ((ad 3), aI q 8 (uP u)), ((ad 4), aD q 8 (fun i => FP.i2d (uX u i))), ((ad 5), aD q 16 (fun i => FP.i2d (uA u i))), ((ad 6), aD q 16 (fun i => FP.i2d (uB u i))), ((ad 7), aD q 16 (uF u))]) (w1 := []) hP hD [] [0, 1, 2, 3, 4, 5, 6, 7] rfl rfl (by decide) (by decide) hk9 hFc hP1 hD1
        generalize H1 = H at hP hS ⊢
        have hP : va_P G vwCl ([((ad 0), .inr (3, [.ref (ad 1), .ref (ad 2), .int (nI (uN u))])), ((ad 2), aF q 6 (fun j => if j < uN u then some (uO u j) else none)), ((ad 1), .inr (1, [.ref (ad 3), .ref (ad 4), .ref (ad 5), .ref (ad 6), .ref (ad 7), .double (uM u), .int (nI (uT u))])), ((ad 3), aI q 8 (uP u)), ((ad 4), aD q 8 (fun i => FP.i2d (uX u i))), ((ad 5), aD q 16 (fun i => FP.i2d (uA u i))), ((ad 6), aD q 16 (fun i => FP.i2d (uB u i))), ((ad 7), aD q 16 (uF u))] ++ TW (uN u) (WQ q (uC u))) H := hP
        have hD : va_D A ([((ad 0), .inr (3, [.ref (ad 1), .ref (ad 2), .int (nI (uN u))])), ((ad 2), aF q 6 (fun j => if j < uN u then some (uO u j) else none)), ((ad 1), .inr (1, [.ref (ad 3), .ref (ad 4), .ref (ad 5), .ref (ad 6), .ref (ad 7), .double (uM u), .int (nI (uT u))])), ((ad 3), aI q 8 (uP u)), ((ad 4), aD q 8 (fun i => FP.i2d (uX u i))), ((ad 5), aD q 16 (fun i => FP.i2d (uA u i))), ((ad 6), aD q 16 (fun i => FP.i2d (uB u i))), ((ad 7), aD q 16 (uF u))] ++ TW (uN u) (WQ q (uC u))) := hD
        try dsimp only at hw
        subst hw
        refine lv_sipush (v := 200) hx hb dL_act_468 (by decide) ?_
        refine lv_isub hx hb dL_act_471 ?_
        refine lv_topi (fun x179 ex179 => ?_)
        obtain rfl : x179 = ((lowV (v >>> (4 &&& 31)) 400) - 200) := ex179
        refine lv_goto (tgt := 476) hx hb dL_act_472 (by decide) ?_
        have hPc := hP.part (cx := [((ad 0), .inr (3, [.ref (ad 1), .ref (ad 2), .int (nI (uN u))])), ((ad 2), aF q 6 (fun j => if j < uN u then some (uO u j) else none)), ((ad 1), .inr (1, [.ref (ad 3), .ref (ad 4), .ref (ad 5), .ref (ad 6), .ref (ad 7), .double (uM u), .int (nI (uT u))])), ((ad 3), aI q 8 (uP u)), ((ad 4), aD q 8 (fun i => FP.i2d (uX u i))), ((ad 5), aD q 16 (fun i => FP.i2d (uA u i))), ((ad 6), aD q 16 (fun i => FP.i2d (uB u i))), ((ad 7), aD q 16 (uF u))]) [0, 1, 2, 3, 4, 5, 6, 7] rfl
        have hDc := hD.part (cx := [((ad 0), .inr (3, [.ref (ad 1), .ref (ad 2), .int (nI (uN u))])), ((ad 2), aF q 6 (fun j => if j < uN u then some (uO u j) else none)), ((ad 1), .inr (1, [.ref (ad 3), .ref (ad 4), .ref (ad 5), .ref (ad 6), .ref (ad 7), .double (uM u), .int (nI (uT u))])), ((ad 3), aI q 8 (uP u)), ((ad 4), aD q 8 (fun i => FP.i2d (uX u i))), ((ad 5), aD q 16 (fun i => FP.i2d (uA u i))), ((ad 6), aD q 16 (fun i => FP.i2d (uB u i))), ((ad 7), aD q 16 (uF u))]) [0, 1, 2, 3, 4, 5, 6, 7] (by decide) rfl
        have hFc := va_freeP (cx := [((ad 0), .inr (3, [.ref (ad 1), .ref (ad 2), .int (nI (uN u))])), ((ad 2), aF q 6 (fun j => if j < uN u then some (uO u j) else none)), ((ad 1), .inr (1, [.ref (ad 3), .ref (ad 4), .ref (ad 5), .ref (ad 6), .ref (ad 7), .double (uM u), .int (nI (uT u))])), ((ad 3), aI q 8 (uP u)), ((ad 4), aD q 8 (fun i => FP.i2d (uX u i))), ((ad 5), aD q 16 (fun i => FP.i2d (uA u i))), ((ad 6), aD q 16 (fun i => FP.i2d (uB u i))), ((ad 7), aD q 16 (uF u))]) hD hS hA [0, 1, 2, 3, 4, 5, 6, 7] rfl
        refine va_calllD hd0 (swd_run (As := [.ref (ad 0), .int ((lowV (v >>> (9 &&& 31)) 900) - 450), .int ((lowV (v >>> (4 &&& 31)) 400) - 200)]) (rest := []) ⟨hx, hb, hml, hown, (dr_words hts s.drawn)⟩ (h_feed hst ((lowV (v >>> (9 &&& 31)) 900) - 450) ((lowV (v >>> (4 &&& 31)) 400) - 200) G q H.size ad V u hu) (vx_cwSW 3 (dr_words hts s.drawn) gL_act_L_feed rfl rfl rfl (by decide +kernel) ⟨Nat.le_of_ble_eq_true rfl, Nat.le_of_ble_eq_true rfl⟩) ⟨preY_blind, preY_start (s := s.setDrawn s.drawn) hPc hK hDc (hNF.drawn s.drawn) (hNT.drawn s.drawn) (hNC.drawn s.drawn) hS (fun q h => hFc q h)⟩ rfl rfl hl.1 rfl (lv_room (Nat.le_of_ble_eq_true rfl)) dL_act_476 ⟨(by show _ ≤ 11; omega), (by show _ ≤ 73; omega)⟩) hS (fun q _ h => hFc q h) hFc (fun r1 u9 t9 H1 locs ht9 hv99 hw hB9 hz9 hk9 hS du180 hu180 => ?_)
        obtain ⟨u1, rfl⟩ : ∃ z, z = u9 := ⟨_, rfl⟩
        obtain ⟨hP1, hD1⟩ := hB9
        rw [ht9] at hP1
        obtain ⟨hP, hD⟩ := va_joinP (wr := []) (rx := [((ad 0), .inr (3, [.ref (ad 1), .ref (ad 2), .int (nI (uN u1))])), ((ad 2), aF q 6 (fun j => if j < uN u1 then some (uO u1 j) else none)), ((ad 1), .inr (1, [.ref (ad 3), .ref (ad 4), .ref (ad 5), .ref (ad 6), .ref (ad 7), .double (uM u1), .int (nI (uT u1))])), ((ad 3), aI q 8 (uP u1)), ((ad 4), aD q 8 (fun i => FP.i2d (uX u1 i))), ((ad 5), aD q 16 (fun i => FP.i2d (uA u1 i))), ((ad 6), aD q 16 (fun i => FP.i2d (uB u1 i))), ((ad 7), aD q 16 (uF u1))]) (pl1 := TW (uN u1) (WQ q (uC u1))) hP hD [0, 1, 2, 3, 4, 5, 6, 7] [] rfl rfl (by decide) (by decide) hk9 hFc hP1 hD1
        generalize H1 = H at hP hS ⊢
        have hP : va_P G vwCl ([((ad 0), .inr (3, [.ref (ad 1), .ref (ad 2), .int (nI (uN u1))])), ((ad 2), aF q 6 (fun j => if j < uN u1 then some (uO u1 j) else none)), ((ad 1), .inr (1, [.ref (ad 3), .ref (ad 4), .ref (ad 5), .ref (ad 6), .ref (ad 7), .double (uM u1), .int (nI (uT u1))])), ((ad 3), aI q 8 (uP u1)), ((ad 4), aD q 8 (fun i => FP.i2d (uX u1 i))), ((ad 5), aD q 16 (fun i => FP.i2d (uA u1 i))), ((ad 6), aD q 16 (fun i => FP.i2d (uB u1 i))), ((ad 7), aD q 16 (uF u1))] ++ TW (uN u1) (WQ q (uC u1))) H := hP
        have hD : va_D A ([((ad 0), .inr (3, [.ref (ad 1), .ref (ad 2), .int (nI (uN u1))])), ((ad 2), aF q 6 (fun j => if j < uN u1 then some (uO u1 j) else none)), ((ad 1), .inr (1, [.ref (ad 3), .ref (ad 4), .ref (ad 5), .ref (ad 6), .ref (ad 7), .double (uM u1), .int (nI (uT u1))])), ((ad 3), aI q 8 (uP u1)), ((ad 4), aD q 8 (fun i => FP.i2d (uX u1 i))), ((ad 5), aD q 16 (fun i => FP.i2d (uA u1 i))), ((ad 6), aD q 16 (fun i => FP.i2d (uB u1 i))), ((ad 7), aD q 16 (uF u1))] ++ TW (uN u1) (WQ q (uC u1))) := hD
        have hA : vAct v V = vFeed ((lowV (v >>> (9 &&& 31)) 900) - 450) ((lowV (v >>> (4 &&& 31)) 400) - 200) V := by unfold vAct; rw [if_neg hcnd1]; unfold actE; rw [← hcs]; rw [selV_14]; rw [if_pos hcnd12]
        rw [← hA] at hw
        refine W.widen (k := 11) (n := 73) (Nat.le_of_ble_eq_true rfl) (Nat.le_of_ble_eq_true rfl) ?_
        have hP9 := hP
        have hD9 := hD
        refine W.endD hu180 ?_
        exact W.lret (v := r1) hx hb hr (fun t ht hW => ⟨⟨r1, u1, rfl, hw, by rw [ht]; exact hP9, hD9⟩, hS.F ht⟩) hS.2.2 dL_act_479
      · skip
        refine lv_if_ne (tgt := 475) hx hb dL_act_456 (by decide) (fun _ => ?_) (fun h => absurd h hcnd12)
        refine lv_iconst (v := 0) hx hb dL_act_475 (by decide) ?_
        have hPc := hP.part (cx := [((ad 0), .inr (3, [.ref (ad 1), .ref (ad 2), .int (nI (uN u))])), ((ad 2), aF q 6 (fun j => if j < uN u then some (uO u j) else none)), ((ad 1), .inr (1, [.ref (ad 3), .ref (ad 4), .ref (ad 5), .ref (ad 6), .ref (ad 7), .double (uM u), .int (nI (uT u))])), ((ad 3), aI q 8 (uP u)), ((ad 4), aD q 8 (fun i => FP.i2d (uX u i))), ((ad 5), aD q 16 (fun i => FP.i2d (uA u i))), ((ad 6), aD q 16 (fun i => FP.i2d (uB u i))), ((ad 7), aD q 16 (uF u))]) [0, 1, 2, 3, 4, 5, 6, 7] rfl
        have hDc := hD.part (cx := [((ad 0), .inr (3, [.ref (ad 1), .ref (ad 2), .int (nI (uN u))])), ((ad 2), aF q 6 (fun j => if j < uN u then some (uO u j) else none)), ((ad 1), .inr (1, [.ref (ad 3), .ref (ad 4), .ref (ad 5), .ref (ad 6), .ref (ad 7), .double (uM u), .int (nI (uT u))])), ((ad 3), aI q 8 (uP u)), ((ad 4), aD q 8 (fun i => FP.i2d (uX u i))), ((ad 5), aD q 16 (fun i => FP.i2d (uA u i))), ((ad 6), aD q 16 (fun i => FP.i2d (uB u i))), ((ad 7), aD q 16 (uF u))]) [0, 1, 2, 3, 4, 5, 6, 7] (by decide) rfl
        have hFc := va_freeP (cx := [((ad 0), .inr (3, [.ref (ad 1), .ref (ad 2), .int (nI (uN u))])), ((ad 2), aF q 6 (fun j => if j < uN u then some (uO u j) else none)), ((ad 1), .inr (1, [.ref (ad 3), .ref (ad 4), .ref (ad 5), .ref (ad 6), .ref (ad 7), .double (uM u), .int (nI (uT u))])), ((ad 3), aI q 8 (uP u)), ((ad 4), aD q 8 (fun i => FP.i2d (uX u i))), ((ad 5), aD q 16 (fun i => FP.i2d (uA u i))), ((ad 6), aD q 16 (fun i => FP.i2d (uB u i))), ((ad 7), aD q 16 (uF u))]) hD hS hA [0, 1, 2, 3, 4, 5, 6, 7] rfl
        refine va_calllD hd0 (swd_run (As := [.ref (ad 0), .int ((lowV (v >>> (9 &&& 31)) 900) - 450), .int 0]) (rest := []) ⟨hx, hb, hml, hown, (dr_words hts s.drawn)⟩ (h_feed hst ((lowV (v >>> (9 &&& 31)) 900) - 450) 0 G q H.size ad V u hu) (vx_cwSW 3 (dr_words hts s.drawn) gL_act_L_feed rfl rfl rfl (by decide +kernel) ⟨Nat.le_of_ble_eq_true rfl, Nat.le_of_ble_eq_true rfl⟩) ⟨preY_blind, preY_start (s := s.setDrawn s.drawn) hPc hK hDc (hNF.drawn s.drawn) (hNT.drawn s.drawn) (hNC.drawn s.drawn) hS (fun q h => hFc q h)⟩ rfl rfl hl.1 rfl (lv_room (Nat.le_of_ble_eq_true rfl)) dL_act_476 ⟨(by show _ ≤ 11; omega), (by show _ ≤ 73; omega)⟩) hS (fun q _ h => hFc q h) hFc (fun r1 u9 t9 H1 locs ht9 hv99 hw hB9 hz9 hk9 hS du182 hu182 => ?_)
        obtain ⟨u1, rfl⟩ : ∃ z, z = u9 := ⟨_, rfl⟩
        obtain ⟨hP1, hD1⟩ := hB9
        rw [ht9] at hP1
        obtain ⟨hP, hD⟩ := va_joinP (wr := []) (rx := [((ad 0), .inr (3, [.ref (ad 1), .ref (ad 2), .int (nI (uN u1))])), ((ad 2), aF q 6 (fun j => if j < uN u1 then some (uO u1 j) else none)), ((ad 1), .inr (1, [.ref (ad 3), .ref (ad 4), .ref (ad 5), .ref (ad 6), .ref (ad 7), .double (uM u1), .int (nI (uT u1))])), ((ad 3), aI q 8 (uP u1)), ((ad 4), aD q 8 (fun i => FP.i2d (uX u1 i))), ((ad 5), aD q 16 (fun i => FP.i2d (uA u1 i))), ((ad 6), aD q 16 (fun i => FP.i2d (uB u1 i))), ((ad 7), aD q 16 (uF u1))]) (pl1 := TW (uN u1) (WQ q (uC u1))) hP hD [0, 1, 2, 3, 4, 5, 6, 7] [] rfl rfl (by decide) (by decide) hk9 hFc hP1 hD1
        generalize H1 = H at hP hS ⊢
        have hP : va_P G vwCl ([((ad 0), .inr (3, [.ref (ad 1), .ref (ad 2), .int (nI (uN u1))])), ((ad 2), aF q 6 (fun j => if j < uN u1 then some (uO u1 j) else none)), ((ad 1), .inr (1, [.ref (ad 3), .ref (ad 4), .ref (ad 5), .ref (ad 6), .ref (ad 7), .double (uM u1), .int (nI (uT u1))])), ((ad 3), aI q 8 (uP u1)), ((ad 4), aD q 8 (fun i => FP.i2d (uX u1 i))), ((ad 5), aD q 16 (fun i => FP.i2d (uA u1 i))), ((ad 6), aD q 16 (fun i => FP.i2d (uB u1 i))), ((ad 7), aD q 16 (uF u1))] ++ TW (uN u1) (WQ q (uC u1))) H := hP
        have hD : va_D A ([((ad 0), .inr (3, [.ref (ad 1), .ref (ad 2), .int (nI (uN u1))])), ((ad 2), aF q 6 (fun j => if j < uN u1 then some (uO u1 j) else none)), ((ad 1), .inr (1, [.ref (ad 3), .ref (ad 4), .ref (ad 5), .ref (ad 6), .ref (ad 7), .double (uM u1), .int (nI (uT u1))])), ((ad 3), aI q 8 (uP u1)), ((ad 4), aD q 8 (fun i => FP.i2d (uX u1 i))), ((ad 5), aD q 16 (fun i => FP.i2d (uA u1 i))), ((ad 6), aD q 16 (fun i => FP.i2d (uB u1 i))), ((ad 7), aD q 16 (uF u1))] ++ TW (uN u1) (WQ q (uC u1))) := hD
        have hA : vAct v V = vFeed ((lowV (v >>> (9 &&& 31)) 900) - 450) 0 V := by unfold vAct; rw [if_neg hcnd1]; unfold actE; rw [← hcs]; rw [selV_14]; rw [if_neg hcnd12]
        rw [← hA] at hw
        refine W.widen (k := 11) (n := 73) (Nat.le_of_ble_eq_true rfl) (Nat.le_of_ble_eq_true rfl) ?_
        have hP9 := hP
        have hD9 := hD
        refine W.endD hu182 ?_
        exact W.lret (v := r1) hx hb hr (fun t ht hW => ⟨⟨r1, u1, rfl, hw, by rw [ht]; exact hP9, hD9⟩, hS.F ht⟩) hS.2.2 dL_act_479
    · skip
      refine lv_tableIn (off := 303) (tgt := 435) hx hb dL_act_132 (by decide) (by decide) (by decide) (by decide) ?_
      refine lv_aload_n hx hb dL_act_435 rfl (lv_at hl 5 rfl) ?_
      refine lv_iload hx hb dL_act_436 (lv_at hl 1 rfl) ?_
      refine lv_iload_n hx hb dL_act_438 rfl (lv_at hl 4 rfl) ?_
      refine lv_if_eq (tgt := 448) hx hb dL_act_439 (by decide) (fun _ => ?_) (fun h => absurd (by decide) h)
      refine lv_iload_n hx hb dL_act_448 rfl (lv_at hl 6 rfl) ?_
      refine lv_bipush (v := 17) hx hb dL_act_449 (by decide) ?_
      refine lv_ishr hx hb dL_act_451 ?_
      refine lv_iconst (v := 3) hx hb dL_act_452 (by decide) ?_
      have hPc := hP.sub (ws' := []) [] rfl
      have hDc := hD.sub (ws' := []) [] (by decide) rfl
      have hFc := va_free (wc := []) hD hS hA [] rfl
      refine va_calli (va_runS (As := [.int (v >>> (17 &&& 31)), .int 3]) (rest := [.int ((lowV (v >>> (9 &&& 31)) 900) - 450), .ref (ad 0)]) ⟨hx, hb, hml, hown, (dr_words hts s.drawn)⟩ (m_L_low l G q H.size (v >>> (17 &&& 31)) 3 (by decide)) (va_cwS 2 (dr_words hts s.drawn) gL_act_L_low rfl rfl rfl (by decide +kernel) ⟨Nat.le_of_ble_eq_true rfl, Nat.le_of_ble_eq_true rfl⟩) ⟨preW_blind, preW_start (s := s.setDrawn s.drawn) hPc hK hDc (hNF.drawn s.drawn)⟩ rfl rfl hl.1 rfl (lv_room (Nat.le_of_ble_eq_true rfl)) dL_act_453 ⟨(by show _ ≤ 11; omega), (by show _ ≤ 73; omega)⟩) hS (fun q _ h => hFc q h) hFc (fun rl u9 t9 H1 locs ht9 hv9 hw hB9 hz9 hk9 hS => ?_)
      obtain ⟨⟩ := u9
      obtain ⟨hP1, hD1⟩ := hB9
      rw [ht9] at hP1
      obtain ⟨hP, hD⟩ := va_joinQ (wr := [((ad 0), .inr (3, [.ref (ad 1), .ref (ad 2), .int (nI (uN u))])), ((ad 2), aF q 6 (fun j => if j < uN u then some (uO u j) else none)), ((ad 1), .inr (1, [.ref (ad 3), .ref (ad 4), .ref (ad 5), .ref (ad 6), .ref (ad 7), .double (uM u), .int (nI (uT u))])), ((ad 3), aI q 8 (uP u)), ((ad 4), aD q 8 (fun i => FP.i2d (uX u i))), ((ad 5), aD q 16 (fun i => FP.i2d (uA u i))), ((ad 6), aD q 16 (fun i => FP.i2d (uB u i))), ((ad 7), aD q 16 (uF u))]) (w1 := []) hP hD [] [0, 1, 2, 3, 4, 5, 6, 7] rfl rfl (by decide) (by decide) hk9 hFc hP1 hD1
      generalize H1 = H at hP hS ⊢
      have hP : va_P G vwCl ([((ad 0), .inr (3, [.ref (ad 1), .ref (ad 2), .int (nI (uN u))])), ((ad 2), aF q 6 (fun j => if j < uN u then some (uO u j) else none)), ((ad 1), .inr (1, [.ref (ad 3), .ref (ad 4), .ref (ad 5), .ref (ad 6), .ref (ad 7), .double (uM u), .int (nI (uT u))])), ((ad 3), aI q 8 (uP u)), ((ad 4), aD q 8 (fun i => FP.i2d (uX u i))), ((ad 5), aD q 16 (fun i => FP.i2d (uA u i))), ((ad 6), aD q 16 (fun i => FP.i2d (uB u i))), ((ad 7), aD q 16 (uF u))] ++ TW (uN u) (WQ q (uC u))) H := hP
      have hD : va_D A ([((ad 0), .inr (3, [.ref (ad 1), .ref (ad 2), .int (nI (uN u))])), ((ad 2), aF q 6 (fun j => if j < uN u then some (uO u j) else none)), ((ad 1), .inr (1, [.ref (ad 3), .ref (ad 4), .ref (ad 5), .ref (ad 6), .ref (ad 7), .double (uM u), .int (nI (uT u))])), ((ad 3), aI q 8 (uP u)), ((ad 4), aD q 8 (fun i => FP.i2d (uX u i))), ((ad 5), aD q 16 (fun i => FP.i2d (uA u i))), ((ad 6), aD q 16 (fun i => FP.i2d (uB u i))), ((ad 7), aD q 16 (uF u))] ++ TW (uN u) (WQ q (uC u))) := hD
      try dsimp only at hw
      subst hw
      by_cases hcnd13 : (lowV (v >>> (17 &&& 31)) 3) = 0
      · skip
        refine lv_if_ne (tgt := 475) hx hb dL_act_456 (by decide) (fun h => absurd hcnd13 h) (fun _ => ?_)
        refine lv_iload_n hx hb dL_act_459 rfl (lv_at hl 6 rfl) ?_
        refine lv_iconst (v := 4) hx hb dL_act_460 (by decide) ?_
        refine lv_ishr hx hb dL_act_461 ?_
        refine lv_sipush (v := 400) hx hb dL_act_462 (by decide) ?_
        have hPc := hP.sub (ws' := []) [] rfl
        have hDc := hD.sub (ws' := []) [] (by decide) rfl
        have hFc := va_free (wc := []) hD hS hA [] rfl
        refine va_calli (va_runS (As := [.int (v >>> (4 &&& 31)), .int 400]) (rest := [.int ((lowV (v >>> (9 &&& 31)) 900) - 450), .ref (ad 0)]) ⟨hx, hb, hml, hown, (dr_words hts s.drawn)⟩ (m_L_low l G q H.size (v >>> (4 &&& 31)) 400 (by decide)) (va_cwS 2 (dr_words hts s.drawn) gL_act_L_low rfl rfl rfl (by decide +kernel) ⟨Nat.le_of_ble_eq_true rfl, Nat.le_of_ble_eq_true rfl⟩) ⟨preW_blind, preW_start (s := s.setDrawn s.drawn) hPc hK hDc (hNF.drawn s.drawn)⟩ rfl rfl hl.1 rfl (lv_room (Nat.le_of_ble_eq_true rfl)) dL_act_465 ⟨(by show _ ≤ 11; omega), (by show _ ≤ 73; omega)⟩) hS (fun q _ h => hFc q h) hFc (fun rl u9 t9 H1 locs ht9 hv9 hw hB9 hz9 hk9 hS => ?_)
        obtain ⟨⟩ := u9
        obtain ⟨hP1, hD1⟩ := hB9
        rw [ht9] at hP1
        obtain ⟨hP, hD⟩ := va_joinQ (wr := [((ad 0), .inr (3, [.ref (ad 1), .ref (ad 2), .int (nI (uN u))])), ((ad 2), aF q 6 (fun j => if j < uN u then some (uO u j) else none)), ((ad 1), .inr (1, [.ref (ad 3), .ref (ad 4), .ref (ad 5), .ref (ad 6), .ref (ad 7), .double (uM u), .int (nI (uT u))])), ((ad 3), aI q 8 (uP u)), ((ad 4), aD q 8 (fun i => FP.i2d (uX u i))), ((ad 5), aD q 16 (fun i => FP.i2d (uA u i))), ((ad 6), aD q 16 (fun i => FP.i2d (uB u i))), ((ad 7), aD q 16 (uF u))]) (w1 := []) hP hD [] [0, 1, 2, 3, 4, 5, 6, 7] rfl rfl (by decide) (by decide) hk9 hFc hP1 hD1
        generalize H1 = H at hP hS ⊢
        have hP : va_P G vwCl ([((ad 0), .inr (3, [.ref (ad 1), .ref (ad 2), .int (nI (uN u))])), ((ad 2), aF q 6 (fun j => if j < uN u then some (uO u j) else none)), ((ad 1), .inr (1, [.ref (ad 3), .ref (ad 4), .ref (ad 5), .ref (ad 6), .ref (ad 7), .double (uM u), .int (nI (uT u))])), ((ad 3), aI q 8 (uP u)), ((ad 4), aD q 8 (fun i => FP.i2d (uX u i))), ((ad 5), aD q 16 (fun i => FP.i2d (uA u i))), ((ad 6), aD q 16 (fun i => FP.i2d (uB u i))), ((ad 7), aD q 16 (uF u))] ++ TW (uN u) (WQ q (uC u))) H := hP
        have hD : va_D A ([((ad 0), .inr (3, [.ref (ad 1), .ref (ad 2), .int (nI (uN u))])), ((ad 2), aF q 6 (fun j => if j < uN u then some (uO u j) else none)), ((ad 1), .inr (1, [.ref (ad 3), .ref (ad 4), .ref (ad 5), .ref (ad 6), .ref (ad 7), .double (uM u), .int (nI (uT u))])), ((ad 3), aI q 8 (uP u)), ((ad 4), aD q 8 (fun i => FP.i2d (uX u i))), ((ad 5), aD q 16 (fun i => FP.i2d (uA u i))), ((ad 6), aD q 16 (fun i => FP.i2d (uB u i))), ((ad 7), aD q 16 (uF u))] ++ TW (uN u) (WQ q (uC u))) := hD
        try dsimp only at hw
        subst hw
        refine lv_sipush (v := 200) hx hb dL_act_468 (by decide) ?_
        refine lv_isub hx hb dL_act_471 ?_
        refine lv_topi (fun x187 ex187 => ?_)
        obtain rfl : x187 = ((lowV (v >>> (4 &&& 31)) 400) - 200) := ex187
        refine lv_goto (tgt := 476) hx hb dL_act_472 (by decide) ?_
        have hPc := hP.part (cx := [((ad 0), .inr (3, [.ref (ad 1), .ref (ad 2), .int (nI (uN u))])), ((ad 2), aF q 6 (fun j => if j < uN u then some (uO u j) else none)), ((ad 1), .inr (1, [.ref (ad 3), .ref (ad 4), .ref (ad 5), .ref (ad 6), .ref (ad 7), .double (uM u), .int (nI (uT u))])), ((ad 3), aI q 8 (uP u)), ((ad 4), aD q 8 (fun i => FP.i2d (uX u i))), ((ad 5), aD q 16 (fun i => FP.i2d (uA u i))), ((ad 6), aD q 16 (fun i => FP.i2d (uB u i))), ((ad 7), aD q 16 (uF u))]) [0, 1, 2, 3, 4, 5, 6, 7] rfl
        have hDc := hD.part (cx := [((ad 0), .inr (3, [.ref (ad 1), .ref (ad 2), .int (nI (uN u))])), ((ad 2), aF q 6 (fun j => if j < uN u then some (uO u j) else none)), ((ad 1), .inr (1, [.ref (ad 3), .ref (ad 4), .ref (ad 5), .ref (ad 6), .ref (ad 7), .double (uM u), .int (nI (uT u))])), ((ad 3), aI q 8 (uP u)), ((ad 4), aD q 8 (fun i => FP.i2d (uX u i))), ((ad 5), aD q 16 (fun i => FP.i2d (uA u i))), ((ad 6), aD q 16 (fun i => FP.i2d (uB u i))), ((ad 7), aD q 16 (uF u))]) [0, 1, 2, 3, 4, 5, 6, 7] (by decide) rfl
        have hFc := va_freeP (cx := [((ad 0), .inr (3, [.ref (ad 1), .ref (ad 2), .int (nI (uN u))])), ((ad 2), aF q 6 (fun j => if j < uN u then some (uO u j) else none)), ((ad 1), .inr (1, [.ref (ad 3), .ref (ad 4), .ref (ad 5), .ref (ad 6), .ref (ad 7), .double (uM u), .int (nI (uT u))])), ((ad 3), aI q 8 (uP u)), ((ad 4), aD q 8 (fun i => FP.i2d (uX u i))), ((ad 5), aD q 16 (fun i => FP.i2d (uA u i))), ((ad 6), aD q 16 (fun i => FP.i2d (uB u i))), ((ad 7), aD q 16 (uF u))]) hD hS hA [0, 1, 2, 3, 4, 5, 6, 7] rfl
        refine va_calllD hd0 (swd_run (As := [.ref (ad 0), .int ((lowV (v >>> (9 &&& 31)) 900) - 450), .int ((lowV (v >>> (4 &&& 31)) 400) - 200)]) (rest := []) ⟨hx, hb, hml, hown, (dr_words hts s.drawn)⟩ (h_feed hst ((lowV (v >>> (9 &&& 31)) 900) - 450) ((lowV (v >>> (4 &&& 31)) 400) - 200) G q H.size ad V u hu) (vx_cwSW 3 (dr_words hts s.drawn) gL_act_L_feed rfl rfl rfl (by decide +kernel) ⟨Nat.le_of_ble_eq_true rfl, Nat.le_of_ble_eq_true rfl⟩) ⟨preY_blind, preY_start (s := s.setDrawn s.drawn) hPc hK hDc (hNF.drawn s.drawn) (hNT.drawn s.drawn) (hNC.drawn s.drawn) hS (fun q h => hFc q h)⟩ rfl rfl hl.1 rfl (lv_room (Nat.le_of_ble_eq_true rfl)) dL_act_476 ⟨(by show _ ≤ 11; omega), (by show _ ≤ 73; omega)⟩) hS (fun q _ h => hFc q h) hFc (fun r1 u9 t9 H1 locs ht9 hv99 hw hB9 hz9 hk9 hS du188 hu188 => ?_)
        obtain ⟨u1, rfl⟩ : ∃ z, z = u9 := ⟨_, rfl⟩
        obtain ⟨hP1, hD1⟩ := hB9
        rw [ht9] at hP1
        obtain ⟨hP, hD⟩ := va_joinP (wr := []) (rx := [((ad 0), .inr (3, [.ref (ad 1), .ref (ad 2), .int (nI (uN u1))])), ((ad 2), aF q 6 (fun j => if j < uN u1 then some (uO u1 j) else none)), ((ad 1), .inr (1, [.ref (ad 3), .ref (ad 4), .ref (ad 5), .ref (ad 6), .ref (ad 7), .double (uM u1), .int (nI (uT u1))])), ((ad 3), aI q 8 (uP u1)), ((ad 4), aD q 8 (fun i => FP.i2d (uX u1 i))), ((ad 5), aD q 16 (fun i => FP.i2d (uA u1 i))), ((ad 6), aD q 16 (fun i => FP.i2d (uB u1 i))), ((ad 7), aD q 16 (uF u1))]) (pl1 := TW (uN u1) (WQ q (uC u1))) hP hD [0, 1, 2, 3, 4, 5, 6, 7] [] rfl rfl (by decide) (by decide) hk9 hFc hP1 hD1
        generalize H1 = H at hP hS ⊢
        have hP : va_P G vwCl ([((ad 0), .inr (3, [.ref (ad 1), .ref (ad 2), .int (nI (uN u1))])), ((ad 2), aF q 6 (fun j => if j < uN u1 then some (uO u1 j) else none)), ((ad 1), .inr (1, [.ref (ad 3), .ref (ad 4), .ref (ad 5), .ref (ad 6), .ref (ad 7), .double (uM u1), .int (nI (uT u1))])), ((ad 3), aI q 8 (uP u1)), ((ad 4), aD q 8 (fun i => FP.i2d (uX u1 i))), ((ad 5), aD q 16 (fun i => FP.i2d (uA u1 i))), ((ad 6), aD q 16 (fun i => FP.i2d (uB u1 i))), ((ad 7), aD q 16 (uF u1))] ++ TW (uN u1) (WQ q (uC u1))) H := hP
        have hD : va_D A ([((ad 0), .inr (3, [.ref (ad 1), .ref (ad 2), .int (nI (uN u1))])), ((ad 2), aF q 6 (fun j => if j < uN u1 then some (uO u1 j) else none)), ((ad 1), .inr (1, [.ref (ad 3), .ref (ad 4), .ref (ad 5), .ref (ad 6), .ref (ad 7), .double (uM u1), .int (nI (uT u1))])), ((ad 3), aI q 8 (uP u1)), ((ad 4), aD q 8 (fun i => FP.i2d (uX u1 i))), ((ad 5), aD q 16 (fun i => FP.i2d (uA u1 i))), ((ad 6), aD q 16 (fun i => FP.i2d (uB u1 i))), ((ad 7), aD q 16 (uF u1))] ++ TW (uN u1) (WQ q (uC u1))) := hD
        have hA : vAct v V = vFeed ((lowV (v >>> (9 &&& 31)) 900) - 450) ((lowV (v >>> (4 &&& 31)) 400) - 200) V := by unfold vAct; rw [if_neg hcnd1]; unfold actE; rw [← hcs]; rw [selV_15]; rw [if_pos hcnd13]
        rw [← hA] at hw
        refine W.widen (k := 11) (n := 73) (Nat.le_of_ble_eq_true rfl) (Nat.le_of_ble_eq_true rfl) ?_
        have hP9 := hP
        have hD9 := hD
        refine W.endD hu188 ?_
        exact W.lret (v := r1) hx hb hr (fun t ht hW => ⟨⟨r1, u1, rfl, hw, by rw [ht]; exact hP9, hD9⟩, hS.F ht⟩) hS.2.2 dL_act_479
      · skip
        refine lv_if_ne (tgt := 475) hx hb dL_act_456 (by decide) (fun _ => ?_) (fun h => absurd h hcnd13)
        refine lv_iconst (v := 0) hx hb dL_act_475 (by decide) ?_
        have hPc := hP.part (cx := [((ad 0), .inr (3, [.ref (ad 1), .ref (ad 2), .int (nI (uN u))])), ((ad 2), aF q 6 (fun j => if j < uN u then some (uO u j) else none)), ((ad 1), .inr (1, [.ref (ad 3), .ref (ad 4), .ref (ad 5), .ref (ad 6), .ref (ad 7), .double (uM u), .int (nI (uT u))])), ((ad 3), aI q 8 (uP u)), ((ad 4), aD q 8 (fun i => FP.i2d (uX u i))), ((ad 5), aD q 16 (fun i => FP.i2d (uA u i))), ((ad 6), aD q 16 (fun i => FP.i2d (uB u i))), ((ad 7), aD q 16 (uF u))]) [0, 1, 2, 3, 4, 5, 6, 7] rfl
        have hDc := hD.part (cx := [((ad 0), .inr (3, [.ref (ad 1), .ref (ad 2), .int (nI (uN u))])), ((ad 2), aF q 6 (fun j => if j < uN u then some (uO u j) else none)), ((ad 1), .inr (1, [.ref (ad 3), .ref (ad 4), .ref (ad 5), .ref (ad 6), .ref (ad 7), .double (uM u), .int (nI (uT u))])), ((ad 3), aI q 8 (uP u)), ((ad 4), aD q 8 (fun i => FP.i2d (uX u i))), ((ad 5), aD q 16 (fun i => FP.i2d (uA u i))), ((ad 6), aD q 16 (fun i => FP.i2d (uB u i))), ((ad 7), aD q 16 (uF u))]) [0, 1, 2, 3, 4, 5, 6, 7] (by decide) rfl
        have hFc := va_freeP (cx := [((ad 0), .inr (3, [.ref (ad 1), .ref (ad 2), .int (nI (uN u))])), ((ad 2), aF q 6 (fun j => if j < uN u then some (uO u j) else none)), ((ad 1), .inr (1, [.ref (ad 3), .ref (ad 4), .ref (ad 5), .ref (ad 6), .ref (ad 7), .double (uM u), .int (nI (uT u))])), ((ad 3), aI q 8 (uP u)), ((ad 4), aD q 8 (fun i => FP.i2d (uX u i))), ((ad 5), aD q 16 (fun i => FP.i2d (uA u i))), ((ad 6), aD q 16 (fun i => FP.i2d (uB u i))), ((ad 7), aD q 16 (uF u))]) hD hS hA [0, 1, 2, 3, 4, 5, 6, 7] rfl
        refine va_calllD hd0 (swd_run (As := [.ref (ad 0), .int ((lowV (v >>> (9 &&& 31)) 900) - 450), .int 0]) (rest := []) ⟨hx, hb, hml, hown, (dr_words hts s.drawn)⟩ (h_feed hst ((lowV (v >>> (9 &&& 31)) 900) - 450) 0 G q H.size ad V u hu) (vx_cwSW 3 (dr_words hts s.drawn) gL_act_L_feed rfl rfl rfl (by decide +kernel) ⟨Nat.le_of_ble_eq_true rfl, Nat.le_of_ble_eq_true rfl⟩) ⟨preY_blind, preY_start (s := s.setDrawn s.drawn) hPc hK hDc (hNF.drawn s.drawn) (hNT.drawn s.drawn) (hNC.drawn s.drawn) hS (fun q h => hFc q h)⟩ rfl rfl hl.1 rfl (lv_room (Nat.le_of_ble_eq_true rfl)) dL_act_476 ⟨(by show _ ≤ 11; omega), (by show _ ≤ 73; omega)⟩) hS (fun q _ h => hFc q h) hFc (fun r1 u9 t9 H1 locs ht9 hv99 hw hB9 hz9 hk9 hS du190 hu190 => ?_)
        obtain ⟨u1, rfl⟩ : ∃ z, z = u9 := ⟨_, rfl⟩
        obtain ⟨hP1, hD1⟩ := hB9
        rw [ht9] at hP1
        obtain ⟨hP, hD⟩ := va_joinP (wr := []) (rx := [((ad 0), .inr (3, [.ref (ad 1), .ref (ad 2), .int (nI (uN u1))])), ((ad 2), aF q 6 (fun j => if j < uN u1 then some (uO u1 j) else none)), ((ad 1), .inr (1, [.ref (ad 3), .ref (ad 4), .ref (ad 5), .ref (ad 6), .ref (ad 7), .double (uM u1), .int (nI (uT u1))])), ((ad 3), aI q 8 (uP u1)), ((ad 4), aD q 8 (fun i => FP.i2d (uX u1 i))), ((ad 5), aD q 16 (fun i => FP.i2d (uA u1 i))), ((ad 6), aD q 16 (fun i => FP.i2d (uB u1 i))), ((ad 7), aD q 16 (uF u1))]) (pl1 := TW (uN u1) (WQ q (uC u1))) hP hD [0, 1, 2, 3, 4, 5, 6, 7] [] rfl rfl (by decide) (by decide) hk9 hFc hP1 hD1
        generalize H1 = H at hP hS ⊢
        have hP : va_P G vwCl ([((ad 0), .inr (3, [.ref (ad 1), .ref (ad 2), .int (nI (uN u1))])), ((ad 2), aF q 6 (fun j => if j < uN u1 then some (uO u1 j) else none)), ((ad 1), .inr (1, [.ref (ad 3), .ref (ad 4), .ref (ad 5), .ref (ad 6), .ref (ad 7), .double (uM u1), .int (nI (uT u1))])), ((ad 3), aI q 8 (uP u1)), ((ad 4), aD q 8 (fun i => FP.i2d (uX u1 i))), ((ad 5), aD q 16 (fun i => FP.i2d (uA u1 i))), ((ad 6), aD q 16 (fun i => FP.i2d (uB u1 i))), ((ad 7), aD q 16 (uF u1))] ++ TW (uN u1) (WQ q (uC u1))) H := hP
        have hD : va_D A ([((ad 0), .inr (3, [.ref (ad 1), .ref (ad 2), .int (nI (uN u1))])), ((ad 2), aF q 6 (fun j => if j < uN u1 then some (uO u1 j) else none)), ((ad 1), .inr (1, [.ref (ad 3), .ref (ad 4), .ref (ad 5), .ref (ad 6), .ref (ad 7), .double (uM u1), .int (nI (uT u1))])), ((ad 3), aI q 8 (uP u1)), ((ad 4), aD q 8 (fun i => FP.i2d (uX u1 i))), ((ad 5), aD q 16 (fun i => FP.i2d (uA u1 i))), ((ad 6), aD q 16 (fun i => FP.i2d (uB u1 i))), ((ad 7), aD q 16 (uF u1))] ++ TW (uN u1) (WQ q (uC u1))) := hD
        have hA : vAct v V = vFeed ((lowV (v >>> (9 &&& 31)) 900) - 450) 0 V := by unfold vAct; rw [if_neg hcnd1]; unfold actE; rw [← hcs]; rw [selV_15]; rw [if_neg hcnd13]
        rw [← hA] at hw
        refine W.widen (k := 11) (n := 73) (Nat.le_of_ble_eq_true rfl) (Nat.le_of_ble_eq_true rfl) ?_
        have hP9 := hP
        have hD9 := hD
        refine W.endD hu190 ?_
        exact W.lret (v := r1) hx hb hr (fun t ht hW => ⟨⟨r1, u1, rfl, hw, by rw [ht]; exact hP9, hD9⟩, hS.F ht⟩) hS.2.2 dL_act_479
    · skip
      refine lv_tableIn (off := 303) (tgt := 435) hx hb dL_act_132 (by decide) (by decide) (by decide) (by decide) ?_
      refine lv_aload_n hx hb dL_act_435 rfl (lv_at hl 5 rfl) ?_
      refine lv_iload hx hb dL_act_436 (lv_at hl 1 rfl) ?_
      refine lv_iload_n hx hb dL_act_438 rfl (lv_at hl 4 rfl) ?_
      refine lv_if_eq (tgt := 448) hx hb dL_act_439 (by decide) (fun _ => ?_) (fun h => absurd (by decide) h)
      refine lv_iload_n hx hb dL_act_448 rfl (lv_at hl 6 rfl) ?_
      refine lv_bipush (v := 17) hx hb dL_act_449 (by decide) ?_
      refine lv_ishr hx hb dL_act_451 ?_
      refine lv_iconst (v := 3) hx hb dL_act_452 (by decide) ?_
      have hPc := hP.sub (ws' := []) [] rfl
      have hDc := hD.sub (ws' := []) [] (by decide) rfl
      have hFc := va_free (wc := []) hD hS hA [] rfl
      refine va_calli (va_runS (As := [.int (v >>> (17 &&& 31)), .int 3]) (rest := [.int ((lowV (v >>> (9 &&& 31)) 900) - 450), .ref (ad 0)]) ⟨hx, hb, hml, hown, (dr_words hts s.drawn)⟩ (m_L_low l G q H.size (v >>> (17 &&& 31)) 3 (by decide)) (va_cwS 2 (dr_words hts s.drawn) gL_act_L_low rfl rfl rfl (by decide +kernel) ⟨Nat.le_of_ble_eq_true rfl, Nat.le_of_ble_eq_true rfl⟩) ⟨preW_blind, preW_start (s := s.setDrawn s.drawn) hPc hK hDc (hNF.drawn s.drawn)⟩ rfl rfl hl.1 rfl (lv_room (Nat.le_of_ble_eq_true rfl)) dL_act_453 ⟨(by show _ ≤ 11; omega), (by show _ ≤ 73; omega)⟩) hS (fun q _ h => hFc q h) hFc (fun rl u9 t9 H1 locs ht9 hv9 hw hB9 hz9 hk9 hS => ?_)
      obtain ⟨⟩ := u9
      obtain ⟨hP1, hD1⟩ := hB9
      rw [ht9] at hP1
      obtain ⟨hP, hD⟩ := va_joinQ (wr := [((ad 0), .inr (3, [.ref (ad 1), .ref (ad 2), .int (nI (uN u))])), ((ad 2), aF q 6 (fun j => if j < uN u then some (uO u j) else none)), ((ad 1), .inr (1, [.ref (ad 3), .ref (ad 4), .ref (ad 5), .ref (ad 6), .ref (ad 7), .double (uM u), .int (nI (uT u))])), ((ad 3), aI q 8 (uP u)), ((ad 4), aD q 8 (fun i => FP.i2d (uX u i))), ((ad 5), aD q 16 (fun i => FP.i2d (uA u i))), ((ad 6), aD q 16 (fun i => FP.i2d (uB u i))), ((ad 7), aD q 16 (uF u))]) (w1 := []) hP hD [] [0, 1, 2, 3, 4, 5, 6, 7] rfl rfl (by decide) (by decide) hk9 hFc hP1 hD1
      generalize H1 = H at hP hS ⊢
      have hP : va_P G vwCl ([((ad 0), .inr (3, [.ref (ad 1), .ref (ad 2), .int (nI (uN u))])), ((ad 2), aF q 6 (fun j => if j < uN u then some (uO u j) else none)), ((ad 1), .inr (1, [.ref (ad 3), .ref (ad 4), .ref (ad 5), .ref (ad 6), .ref (ad 7), .double (uM u), .int (nI (uT u))])), ((ad 3), aI q 8 (uP u)), ((ad 4), aD q 8 (fun i => FP.i2d (uX u i))), ((ad 5), aD q 16 (fun i => FP.i2d (uA u i))), ((ad 6), aD q 16 (fun i => FP.i2d (uB u i))), ((ad 7), aD q 16 (uF u))] ++ TW (uN u) (WQ q (uC u))) H := hP
      have hD : va_D A ([((ad 0), .inr (3, [.ref (ad 1), .ref (ad 2), .int (nI (uN u))])), ((ad 2), aF q 6 (fun j => if j < uN u then some (uO u j) else none)), ((ad 1), .inr (1, [.ref (ad 3), .ref (ad 4), .ref (ad 5), .ref (ad 6), .ref (ad 7), .double (uM u), .int (nI (uT u))])), ((ad 3), aI q 8 (uP u)), ((ad 4), aD q 8 (fun i => FP.i2d (uX u i))), ((ad 5), aD q 16 (fun i => FP.i2d (uA u i))), ((ad 6), aD q 16 (fun i => FP.i2d (uB u i))), ((ad 7), aD q 16 (uF u))] ++ TW (uN u) (WQ q (uC u))) := hD
      try dsimp only at hw
      subst hw
      by_cases hcnd14 : (lowV (v >>> (17 &&& 31)) 3) = 0
      · skip
        refine lv_if_ne (tgt := 475) hx hb dL_act_456 (by decide) (fun h => absurd hcnd14 h) (fun _ => ?_)
        refine lv_iload_n hx hb dL_act_459 rfl (lv_at hl 6 rfl) ?_
        refine lv_iconst (v := 4) hx hb dL_act_460 (by decide) ?_
        refine lv_ishr hx hb dL_act_461 ?_
        refine lv_sipush (v := 400) hx hb dL_act_462 (by decide) ?_
        have hPc := hP.sub (ws' := []) [] rfl
        have hDc := hD.sub (ws' := []) [] (by decide) rfl
        have hFc := va_free (wc := []) hD hS hA [] rfl
        refine va_calli (va_runS (As := [.int (v >>> (4 &&& 31)), .int 400]) (rest := [.int ((lowV (v >>> (9 &&& 31)) 900) - 450), .ref (ad 0)]) ⟨hx, hb, hml, hown, (dr_words hts s.drawn)⟩ (m_L_low l G q H.size (v >>> (4 &&& 31)) 400 (by decide)) (va_cwS 2 (dr_words hts s.drawn) gL_act_L_low rfl rfl rfl (by decide +kernel) ⟨Nat.le_of_ble_eq_true rfl, Nat.le_of_ble_eq_true rfl⟩) ⟨preW_blind, preW_start (s := s.setDrawn s.drawn) hPc hK hDc (hNF.drawn s.drawn)⟩ rfl rfl hl.1 rfl (lv_room (Nat.le_of_ble_eq_true rfl)) dL_act_465 ⟨(by show _ ≤ 11; omega), (by show _ ≤ 73; omega)⟩) hS (fun q _ h => hFc q h) hFc (fun rl u9 t9 H1 locs ht9 hv9 hw hB9 hz9 hk9 hS => ?_)
        obtain ⟨⟩ := u9
        obtain ⟨hP1, hD1⟩ := hB9
        rw [ht9] at hP1
        obtain ⟨hP, hD⟩ := va_joinQ (wr := [((ad 0), .inr (3, [.ref (ad 1), .ref (ad 2), .int (nI (uN u))])), ((ad 2), aF q 6 (fun j => if j < uN u then some (uO u j) else none)), ((ad 1), .inr (1, [.ref (ad 3), .ref (ad 4), .ref (ad 5), .ref (ad 6), .ref (ad 7), .double (uM u), .int (nI (uT u))])), ((ad 3), aI q 8 (uP u)), ((ad 4), aD q 8 (fun i => FP.i2d (uX u i))), ((ad 5), aD q 16 (fun i => FP.i2d (uA u i))), ((ad 6), aD q 16 (fun i => FP.i2d (uB u i))), ((ad 7), aD q 16 (uF u))]) (w1 := []) hP hD [] [0, 1, 2, 3, 4, 5, 6, 7] rfl rfl (by decide) (by decide) hk9 hFc hP1 hD1
        generalize H1 = H at hP hS ⊢
        have hP : va_P G vwCl ([((ad 0), .inr (3, [.ref (ad 1), .ref (ad 2), .int (nI (uN u))])), ((ad 2), aF q 6 (fun j => if j < uN u then some (uO u j) else none)), ((ad 1), .inr (1, [.ref (ad 3), .ref (ad 4), .ref (ad 5), .ref (ad 6), .ref (ad 7), .double (uM u), .int (nI (uT u))])), ((ad 3), aI q 8 (uP u)), ((ad 4), aD q 8 (fun i => FP.i2d (uX u i))), ((ad 5), aD q 16 (fun i => FP.i2d (uA u i))), ((ad 6), aD q 16 (fun i => FP.i2d (uB u i))), ((ad 7), aD q 16 (uF u))] ++ TW (uN u) (WQ q (uC u))) H := hP
        have hD : va_D A ([((ad 0), .inr (3, [.ref (ad 1), .ref (ad 2), .int (nI (uN u))])), ((ad 2), aF q 6 (fun j => if j < uN u then some (uO u j) else none)), ((ad 1), .inr (1, [.ref (ad 3), .ref (ad 4), .ref (ad 5), .ref (ad 6), .ref (ad 7), .double (uM u), .int (nI (uT u))])), ((ad 3), aI q 8 (uP u)), ((ad 4), aD q 8 (fun i => FP.i2d (uX u i))), ((ad 5), aD q 16 (fun i => FP.i2d (uA u i))), ((ad 6), aD q 16 (fun i => FP.i2d (uB u i))), ((ad 7), aD q 16 (uF u))] ++ TW (uN u) (WQ q (uC u))) := hD
        try dsimp only at hw
        subst hw
        refine lv_sipush (v := 200) hx hb dL_act_468 (by decide) ?_
        refine lv_isub hx hb dL_act_471 ?_
        refine lv_topi (fun x195 ex195 => ?_)
        obtain rfl : x195 = ((lowV (v >>> (4 &&& 31)) 400) - 200) := ex195
        refine lv_goto (tgt := 476) hx hb dL_act_472 (by decide) ?_
        have hPc := hP.part (cx := [((ad 0), .inr (3, [.ref (ad 1), .ref (ad 2), .int (nI (uN u))])), ((ad 2), aF q 6 (fun j => if j < uN u then some (uO u j) else none)), ((ad 1), .inr (1, [.ref (ad 3), .ref (ad 4), .ref (ad 5), .ref (ad 6), .ref (ad 7), .double (uM u), .int (nI (uT u))])), ((ad 3), aI q 8 (uP u)), ((ad 4), aD q 8 (fun i => FP.i2d (uX u i))), ((ad 5), aD q 16 (fun i => FP.i2d (uA u i))), ((ad 6), aD q 16 (fun i => FP.i2d (uB u i))), ((ad 7), aD q 16 (uF u))]) [0, 1, 2, 3, 4, 5, 6, 7] rfl
        have hDc := hD.part (cx := [((ad 0), .inr (3, [.ref (ad 1), .ref (ad 2), .int (nI (uN u))])), ((ad 2), aF q 6 (fun j => if j < uN u then some (uO u j) else none)), ((ad 1), .inr (1, [.ref (ad 3), .ref (ad 4), .ref (ad 5), .ref (ad 6), .ref (ad 7), .double (uM u), .int (nI (uT u))])), ((ad 3), aI q 8 (uP u)), ((ad 4), aD q 8 (fun i => FP.i2d (uX u i))), ((ad 5), aD q 16 (fun i => FP.i2d (uA u i))), ((ad 6), aD q 16 (fun i => FP.i2d (uB u i))), ((ad 7), aD q 16 (uF u))]) [0, 1, 2, 3, 4, 5, 6, 7] (by decide) rfl
        have hFc := va_freeP (cx := [((ad 0), .inr (3, [.ref (ad 1), .ref (ad 2), .int (nI (uN u))])), ((ad 2), aF q 6 (fun j => if j < uN u then some (uO u j) else none)), ((ad 1), .inr (1, [.ref (ad 3), .ref (ad 4), .ref (ad 5), .ref (ad 6), .ref (ad 7), .double (uM u), .int (nI (uT u))])), ((ad 3), aI q 8 (uP u)), ((ad 4), aD q 8 (fun i => FP.i2d (uX u i))), ((ad 5), aD q 16 (fun i => FP.i2d (uA u i))), ((ad 6), aD q 16 (fun i => FP.i2d (uB u i))), ((ad 7), aD q 16 (uF u))]) hD hS hA [0, 1, 2, 3, 4, 5, 6, 7] rfl
        refine va_calllD hd0 (swd_run (As := [.ref (ad 0), .int ((lowV (v >>> (9 &&& 31)) 900) - 450), .int ((lowV (v >>> (4 &&& 31)) 400) - 200)]) (rest := []) ⟨hx, hb, hml, hown, (dr_words hts s.drawn)⟩ (h_feed hst ((lowV (v >>> (9 &&& 31)) 900) - 450) ((lowV (v >>> (4 &&& 31)) 400) - 200) G q H.size ad V u hu) (vx_cwSW 3 (dr_words hts s.drawn) gL_act_L_feed rfl rfl rfl (by decide +kernel) ⟨Nat.le_of_ble_eq_true rfl, Nat.le_of_ble_eq_true rfl⟩) ⟨preY_blind, preY_start (s := s.setDrawn s.drawn) hPc hK hDc (hNF.drawn s.drawn) (hNT.drawn s.drawn) (hNC.drawn s.drawn) hS (fun q h => hFc q h)⟩ rfl rfl hl.1 rfl (lv_room (Nat.le_of_ble_eq_true rfl)) dL_act_476 ⟨(by show _ ≤ 11; omega), (by show _ ≤ 73; omega)⟩) hS (fun q _ h => hFc q h) hFc (fun r1 u9 t9 H1 locs ht9 hv99 hw hB9 hz9 hk9 hS du196 hu196 => ?_)
        obtain ⟨u1, rfl⟩ : ∃ z, z = u9 := ⟨_, rfl⟩
        obtain ⟨hP1, hD1⟩ := hB9
        rw [ht9] at hP1
        obtain ⟨hP, hD⟩ := va_joinP (wr := []) (rx := [((ad 0), .inr (3, [.ref (ad 1), .ref (ad 2), .int (nI (uN u1))])), ((ad 2), aF q 6 (fun j => if j < uN u1 then some (uO u1 j) else none)), ((ad 1), .inr (1, [.ref (ad 3), .ref (ad 4), .ref (ad 5), .ref (ad 6), .ref (ad 7), .double (uM u1), .int (nI (uT u1))])), ((ad 3), aI q 8 (uP u1)), ((ad 4), aD q 8 (fun i => FP.i2d (uX u1 i))), ((ad 5), aD q 16 (fun i => FP.i2d (uA u1 i))), ((ad 6), aD q 16 (fun i => FP.i2d (uB u1 i))), ((ad 7), aD q 16 (uF u1))]) (pl1 := TW (uN u1) (WQ q (uC u1))) hP hD [0, 1, 2, 3, 4, 5, 6, 7] [] rfl rfl (by decide) (by decide) hk9 hFc hP1 hD1
        generalize H1 = H at hP hS ⊢
        have hP : va_P G vwCl ([((ad 0), .inr (3, [.ref (ad 1), .ref (ad 2), .int (nI (uN u1))])), ((ad 2), aF q 6 (fun j => if j < uN u1 then some (uO u1 j) else none)), ((ad 1), .inr (1, [.ref (ad 3), .ref (ad 4), .ref (ad 5), .ref (ad 6), .ref (ad 7), .double (uM u1), .int (nI (uT u1))])), ((ad 3), aI q 8 (uP u1)), ((ad 4), aD q 8 (fun i => FP.i2d (uX u1 i))), ((ad 5), aD q 16 (fun i => FP.i2d (uA u1 i))), ((ad 6), aD q 16 (fun i => FP.i2d (uB u1 i))), ((ad 7), aD q 16 (uF u1))] ++ TW (uN u1) (WQ q (uC u1))) H := hP
        have hD : va_D A ([((ad 0), .inr (3, [.ref (ad 1), .ref (ad 2), .int (nI (uN u1))])), ((ad 2), aF q 6 (fun j => if j < uN u1 then some (uO u1 j) else none)), ((ad 1), .inr (1, [.ref (ad 3), .ref (ad 4), .ref (ad 5), .ref (ad 6), .ref (ad 7), .double (uM u1), .int (nI (uT u1))])), ((ad 3), aI q 8 (uP u1)), ((ad 4), aD q 8 (fun i => FP.i2d (uX u1 i))), ((ad 5), aD q 16 (fun i => FP.i2d (uA u1 i))), ((ad 6), aD q 16 (fun i => FP.i2d (uB u1 i))), ((ad 7), aD q 16 (uF u1))] ++ TW (uN u1) (WQ q (uC u1))) := hD
        have hA : vAct v V = vFeed ((lowV (v >>> (9 &&& 31)) 900) - 450) ((lowV (v >>> (4 &&& 31)) 400) - 200) V := by unfold vAct; rw [if_neg hcnd1]; unfold actE; rw [← hcs]; rw [selV_16]; rw [if_pos hcnd14]
        rw [← hA] at hw
        refine W.widen (k := 11) (n := 73) (Nat.le_of_ble_eq_true rfl) (Nat.le_of_ble_eq_true rfl) ?_
        have hP9 := hP
        have hD9 := hD
        refine W.endD hu196 ?_
        exact W.lret (v := r1) hx hb hr (fun t ht hW => ⟨⟨r1, u1, rfl, hw, by rw [ht]; exact hP9, hD9⟩, hS.F ht⟩) hS.2.2 dL_act_479
      · skip
        refine lv_if_ne (tgt := 475) hx hb dL_act_456 (by decide) (fun _ => ?_) (fun h => absurd h hcnd14)
        refine lv_iconst (v := 0) hx hb dL_act_475 (by decide) ?_
        have hPc := hP.part (cx := [((ad 0), .inr (3, [.ref (ad 1), .ref (ad 2), .int (nI (uN u))])), ((ad 2), aF q 6 (fun j => if j < uN u then some (uO u j) else none)), ((ad 1), .inr (1, [.ref (ad 3), .ref (ad 4), .ref (ad 5), .ref (ad 6), .ref (ad 7), .double (uM u), .int (nI (uT u))])), ((ad 3), aI q 8 (uP u)), ((ad 4), aD q 8 (fun i => FP.i2d (uX u i))), ((ad 5), aD q 16 (fun i => FP.i2d (uA u i))), ((ad 6), aD q 16 (fun i => FP.i2d (uB u i))), ((ad 7), aD q 16 (uF u))]) [0, 1, 2, 3, 4, 5, 6, 7] rfl
        have hDc := hD.part (cx := [((ad 0), .inr (3, [.ref (ad 1), .ref (ad 2), .int (nI (uN u))])), ((ad 2), aF q 6 (fun j => if j < uN u then some (uO u j) else none)), ((ad 1), .inr (1, [.ref (ad 3), .ref (ad 4), .ref (ad 5), .ref (ad 6), .ref (ad 7), .double (uM u), .int (nI (uT u))])), ((ad 3), aI q 8 (uP u)), ((ad 4), aD q 8 (fun i => FP.i2d (uX u i))), ((ad 5), aD q 16 (fun i => FP.i2d (uA u i))), ((ad 6), aD q 16 (fun i => FP.i2d (uB u i))), ((ad 7), aD q 16 (uF u))]) [0, 1, 2, 3, 4, 5, 6, 7] (by decide) rfl
        have hFc := va_freeP (cx := [((ad 0), .inr (3, [.ref (ad 1), .ref (ad 2), .int (nI (uN u))])), ((ad 2), aF q 6 (fun j => if j < uN u then some (uO u j) else none)), ((ad 1), .inr (1, [.ref (ad 3), .ref (ad 4), .ref (ad 5), .ref (ad 6), .ref (ad 7), .double (uM u), .int (nI (uT u))])), ((ad 3), aI q 8 (uP u)), ((ad 4), aD q 8 (fun i => FP.i2d (uX u i))), ((ad 5), aD q 16 (fun i => FP.i2d (uA u i))), ((ad 6), aD q 16 (fun i => FP.i2d (uB u i))), ((ad 7), aD q 16 (uF u))]) hD hS hA [0, 1, 2, 3, 4, 5, 6, 7] rfl
        refine va_calllD hd0 (swd_run (As := [.ref (ad 0), .int ((lowV (v >>> (9 &&& 31)) 900) - 450), .int 0]) (rest := []) ⟨hx, hb, hml, hown, (dr_words hts s.drawn)⟩ (h_feed hst ((lowV (v >>> (9 &&& 31)) 900) - 450) 0 G q H.size ad V u hu) (vx_cwSW 3 (dr_words hts s.drawn) gL_act_L_feed rfl rfl rfl (by decide +kernel) ⟨Nat.le_of_ble_eq_true rfl, Nat.le_of_ble_eq_true rfl⟩) ⟨preY_blind, preY_start (s := s.setDrawn s.drawn) hPc hK hDc (hNF.drawn s.drawn) (hNT.drawn s.drawn) (hNC.drawn s.drawn) hS (fun q h => hFc q h)⟩ rfl rfl hl.1 rfl (lv_room (Nat.le_of_ble_eq_true rfl)) dL_act_476 ⟨(by show _ ≤ 11; omega), (by show _ ≤ 73; omega)⟩) hS (fun q _ h => hFc q h) hFc (fun r1 u9 t9 H1 locs ht9 hv99 hw hB9 hz9 hk9 hS du198 hu198 => ?_)
        obtain ⟨u1, rfl⟩ : ∃ z, z = u9 := ⟨_, rfl⟩
        obtain ⟨hP1, hD1⟩ := hB9
        rw [ht9] at hP1
        obtain ⟨hP, hD⟩ := va_joinP (wr := []) (rx := [((ad 0), .inr (3, [.ref (ad 1), .ref (ad 2), .int (nI (uN u1))])), ((ad 2), aF q 6 (fun j => if j < uN u1 then some (uO u1 j) else none)), ((ad 1), .inr (1, [.ref (ad 3), .ref (ad 4), .ref (ad 5), .ref (ad 6), .ref (ad 7), .double (uM u1), .int (nI (uT u1))])), ((ad 3), aI q 8 (uP u1)), ((ad 4), aD q 8 (fun i => FP.i2d (uX u1 i))), ((ad 5), aD q 16 (fun i => FP.i2d (uA u1 i))), ((ad 6), aD q 16 (fun i => FP.i2d (uB u1 i))), ((ad 7), aD q 16 (uF u1))]) (pl1 := TW (uN u1) (WQ q (uC u1))) hP hD [0, 1, 2, 3, 4, 5, 6, 7] [] rfl rfl (by decide) (by decide) hk9 hFc hP1 hD1
        generalize H1 = H at hP hS ⊢
        have hP : va_P G vwCl ([((ad 0), .inr (3, [.ref (ad 1), .ref (ad 2), .int (nI (uN u1))])), ((ad 2), aF q 6 (fun j => if j < uN u1 then some (uO u1 j) else none)), ((ad 1), .inr (1, [.ref (ad 3), .ref (ad 4), .ref (ad 5), .ref (ad 6), .ref (ad 7), .double (uM u1), .int (nI (uT u1))])), ((ad 3), aI q 8 (uP u1)), ((ad 4), aD q 8 (fun i => FP.i2d (uX u1 i))), ((ad 5), aD q 16 (fun i => FP.i2d (uA u1 i))), ((ad 6), aD q 16 (fun i => FP.i2d (uB u1 i))), ((ad 7), aD q 16 (uF u1))] ++ TW (uN u1) (WQ q (uC u1))) H := hP
        have hD : va_D A ([((ad 0), .inr (3, [.ref (ad 1), .ref (ad 2), .int (nI (uN u1))])), ((ad 2), aF q 6 (fun j => if j < uN u1 then some (uO u1 j) else none)), ((ad 1), .inr (1, [.ref (ad 3), .ref (ad 4), .ref (ad 5), .ref (ad 6), .ref (ad 7), .double (uM u1), .int (nI (uT u1))])), ((ad 3), aI q 8 (uP u1)), ((ad 4), aD q 8 (fun i => FP.i2d (uX u1 i))), ((ad 5), aD q 16 (fun i => FP.i2d (uA u1 i))), ((ad 6), aD q 16 (fun i => FP.i2d (uB u1 i))), ((ad 7), aD q 16 (uF u1))] ++ TW (uN u1) (WQ q (uC u1))) := hD
        have hA : vAct v V = vFeed ((lowV (v >>> (9 &&& 31)) 900) - 450) 0 V := by unfold vAct; rw [if_neg hcnd1]; unfold actE; rw [← hcs]; rw [selV_16]; rw [if_neg hcnd14]
        rw [← hA] at hw
        refine W.widen (k := 11) (n := 73) (Nat.le_of_ble_eq_true rfl) (Nat.le_of_ble_eq_true rfl) ?_
        have hP9 := hP
        have hD9 := hD
        refine W.endD hu198 ?_
        exact W.lret (v := r1) hx hb hr (fun t ht hW => ⟨⟨r1, u1, rfl, hw, by rw [ht]; exact hP9, hD9⟩, hS.F ht⟩) hS.2.2 dL_act_479
    · skip
      refine lv_tableIn (off := 348) (tgt := 480) hx hb dL_act_132 (by decide) (by decide) (by decide) (by decide) ?_
      refine lv_aload_n hx hb dL_act_480 rfl (lv_at hl 5 rfl) ?_
      refine lv_iload_n hx hb dL_act_481 rfl (lv_at hl 4 rfl) ?_
      refine lv_if_eq (tgt := 492) hx hb dL_act_482 (by decide) (fun _ => ?_) (fun h => absurd (by decide) h)
      refine lv_iload_n hx hb dL_act_492 rfl (lv_at hl 6 rfl) ?_
      refine lv_bipush (v := 9) hx hb dL_act_493 (by decide) ?_
      refine lv_ishr hx hb dL_act_495 ?_
      refine lv_sipush (v := 2001) hx hb dL_act_496 (by decide) ?_
      have hPc := hP.sub (ws' := []) [] rfl
      have hDc := hD.sub (ws' := []) [] (by decide) rfl
      have hFc := va_free (wc := []) hD hS hA [] rfl
      refine va_calli (va_runS (As := [.int (v >>> (9 &&& 31)), .int 2001]) (rest := [.ref (ad 0)]) ⟨hx, hb, hml, hown, (dr_words hts s.drawn)⟩ (m_L_low l G q H.size (v >>> (9 &&& 31)) 2001 (by decide)) (va_cwS 2 (dr_words hts s.drawn) gL_act_L_low rfl rfl rfl (by decide +kernel) ⟨Nat.le_of_ble_eq_true rfl, Nat.le_of_ble_eq_true rfl⟩) ⟨preW_blind, preW_start (s := s.setDrawn s.drawn) hPc hK hDc (hNF.drawn s.drawn)⟩ rfl rfl hl.1 rfl (lv_room (Nat.le_of_ble_eq_true rfl)) dL_act_499 ⟨(by show _ ≤ 11; omega), (by show _ ≤ 73; omega)⟩) hS (fun q _ h => hFc q h) hFc (fun rl u9 t9 H1 locs ht9 hv9 hw hB9 hz9 hk9 hS => ?_)
      obtain ⟨⟩ := u9
      obtain ⟨hP1, hD1⟩ := hB9
      rw [ht9] at hP1
      obtain ⟨hP, hD⟩ := va_joinQ (wr := [((ad 0), .inr (3, [.ref (ad 1), .ref (ad 2), .int (nI (uN u))])), ((ad 2), aF q 6 (fun j => if j < uN u then some (uO u j) else none)), ((ad 1), .inr (1, [.ref (ad 3), .ref (ad 4), .ref (ad 5), .ref (ad 6), .ref (ad 7), .double (uM u), .int (nI (uT u))])), ((ad 3), aI q 8 (uP u)), ((ad 4), aD q 8 (fun i => FP.i2d (uX u i))), ((ad 5), aD q 16 (fun i => FP.i2d (uA u i))), ((ad 6), aD q 16 (fun i => FP.i2d (uB u i))), ((ad 7), aD q 16 (uF u))]) (w1 := []) hP hD [] [0, 1, 2, 3, 4, 5, 6, 7] rfl rfl (by decide) (by decide) hk9 hFc hP1 hD1
      generalize H1 = H at hP hS ⊢
      have hP : va_P G vwCl ([((ad 0), .inr (3, [.ref (ad 1), .ref (ad 2), .int (nI (uN u))])), ((ad 2), aF q 6 (fun j => if j < uN u then some (uO u j) else none)), ((ad 1), .inr (1, [.ref (ad 3), .ref (ad 4), .ref (ad 5), .ref (ad 6), .ref (ad 7), .double (uM u), .int (nI (uT u))])), ((ad 3), aI q 8 (uP u)), ((ad 4), aD q 8 (fun i => FP.i2d (uX u i))), ((ad 5), aD q 16 (fun i => FP.i2d (uA u i))), ((ad 6), aD q 16 (fun i => FP.i2d (uB u i))), ((ad 7), aD q 16 (uF u))] ++ TW (uN u) (WQ q (uC u))) H := hP
      have hD : va_D A ([((ad 0), .inr (3, [.ref (ad 1), .ref (ad 2), .int (nI (uN u))])), ((ad 2), aF q 6 (fun j => if j < uN u then some (uO u j) else none)), ((ad 1), .inr (1, [.ref (ad 3), .ref (ad 4), .ref (ad 5), .ref (ad 6), .ref (ad 7), .double (uM u), .int (nI (uT u))])), ((ad 3), aI q 8 (uP u)), ((ad 4), aD q 8 (fun i => FP.i2d (uX u i))), ((ad 5), aD q 16 (fun i => FP.i2d (uA u i))), ((ad 6), aD q 16 (fun i => FP.i2d (uB u i))), ((ad 7), aD q 16 (uF u))] ++ TW (uN u) (WQ q (uC u))) := hD
      try dsimp only at hw
      subst hw
      refine lv_iload_n hx hb dL_act_502 rfl (lv_at hl 4 rfl) ?_
      refine lv_if_eq (tgt := 511) hx hb dL_act_503 (by decide) (fun _ => ?_) (fun h => absurd (by decide) h)
      refine lv_iconst (v := 1) hx hb dL_act_511 (by decide) ?_
      refine lv_iload_n hx hb dL_act_512 rfl (lv_at hl 6 rfl) ?_
      refine lv_bipush (v := 6) hx hb dL_act_513 (by decide) ?_
      refine lv_ishr hx hb dL_act_515 ?_
      refine lv_bipush (v := 8) hx hb dL_act_516 (by decide) ?_
      have hPc := hP.sub (ws' := []) [] rfl
      have hDc := hD.sub (ws' := []) [] (by decide) rfl
      have hFc := va_free (wc := []) hD hS hA [] rfl
      refine va_calli (va_runS (As := [.int (v >>> (6 &&& 31)), .int 8]) (rest := [.int 1, .int (lowV (v >>> (9 &&& 31)) 2001), .ref (ad 0)]) ⟨hx, hb, hml, hown, (dr_words hts s.drawn)⟩ (m_L_low l G q H.size (v >>> (6 &&& 31)) 8 (by decide)) (va_cwS 2 (dr_words hts s.drawn) gL_act_L_low rfl rfl rfl (by decide +kernel) ⟨Nat.le_of_ble_eq_true rfl, Nat.le_of_ble_eq_true rfl⟩) ⟨preW_blind, preW_start (s := s.setDrawn s.drawn) hPc hK hDc (hNF.drawn s.drawn)⟩ rfl rfl hl.1 rfl (lv_room (Nat.le_of_ble_eq_true rfl)) dL_act_518 ⟨(by show _ ≤ 11; omega), (by show _ ≤ 73; omega)⟩) hS (fun q _ h => hFc q h) hFc (fun rl u9 t9 H1 locs ht9 hv9 hw hB9 hz9 hk9 hS => ?_)
      obtain ⟨⟩ := u9
      obtain ⟨hP1, hD1⟩ := hB9
      rw [ht9] at hP1
      obtain ⟨hP, hD⟩ := va_joinQ (wr := [((ad 0), .inr (3, [.ref (ad 1), .ref (ad 2), .int (nI (uN u))])), ((ad 2), aF q 6 (fun j => if j < uN u then some (uO u j) else none)), ((ad 1), .inr (1, [.ref (ad 3), .ref (ad 4), .ref (ad 5), .ref (ad 6), .ref (ad 7), .double (uM u), .int (nI (uT u))])), ((ad 3), aI q 8 (uP u)), ((ad 4), aD q 8 (fun i => FP.i2d (uX u i))), ((ad 5), aD q 16 (fun i => FP.i2d (uA u i))), ((ad 6), aD q 16 (fun i => FP.i2d (uB u i))), ((ad 7), aD q 16 (uF u))]) (w1 := []) hP hD [] [0, 1, 2, 3, 4, 5, 6, 7] rfl rfl (by decide) (by decide) hk9 hFc hP1 hD1
      generalize H1 = H at hP hS ⊢
      have hP : va_P G vwCl ([((ad 0), .inr (3, [.ref (ad 1), .ref (ad 2), .int (nI (uN u))])), ((ad 2), aF q 6 (fun j => if j < uN u then some (uO u j) else none)), ((ad 1), .inr (1, [.ref (ad 3), .ref (ad 4), .ref (ad 5), .ref (ad 6), .ref (ad 7), .double (uM u), .int (nI (uT u))])), ((ad 3), aI q 8 (uP u)), ((ad 4), aD q 8 (fun i => FP.i2d (uX u i))), ((ad 5), aD q 16 (fun i => FP.i2d (uA u i))), ((ad 6), aD q 16 (fun i => FP.i2d (uB u i))), ((ad 7), aD q 16 (uF u))] ++ TW (uN u) (WQ q (uC u))) H := hP
      have hD : va_D A ([((ad 0), .inr (3, [.ref (ad 1), .ref (ad 2), .int (nI (uN u))])), ((ad 2), aF q 6 (fun j => if j < uN u then some (uO u j) else none)), ((ad 1), .inr (1, [.ref (ad 3), .ref (ad 4), .ref (ad 5), .ref (ad 6), .ref (ad 7), .double (uM u), .int (nI (uT u))])), ((ad 3), aI q 8 (uP u)), ((ad 4), aD q 8 (fun i => FP.i2d (uX u i))), ((ad 5), aD q 16 (fun i => FP.i2d (uA u i))), ((ad 6), aD q 16 (fun i => FP.i2d (uB u i))), ((ad 7), aD q 16 (uF u))] ++ TW (uN u) (WQ q (uC u))) := hD
      try dsimp only at hw
      subst hw
      refine lv_iadd hx hb dL_act_521 ?_
      refine lv_topi (fun x203 ex203 => ?_)
      obtain rfl : x203 = ((1 : Int32) + (lowV (v >>> (6 &&& 31)) 8)) := ex203
      have hPc := hP.part (cx := [((ad 0), .inr (3, [.ref (ad 1), .ref (ad 2), .int (nI (uN u))])), ((ad 2), aF q 6 (fun j => if j < uN u then some (uO u j) else none)), ((ad 1), .inr (1, [.ref (ad 3), .ref (ad 4), .ref (ad 5), .ref (ad 6), .ref (ad 7), .double (uM u), .int (nI (uT u))])), ((ad 3), aI q 8 (uP u)), ((ad 4), aD q 8 (fun i => FP.i2d (uX u i))), ((ad 5), aD q 16 (fun i => FP.i2d (uA u i))), ((ad 6), aD q 16 (fun i => FP.i2d (uB u i))), ((ad 7), aD q 16 (uF u))]) [0, 1, 2, 3, 4, 5, 6, 7] rfl
      have hDc := hD.part (cx := [((ad 0), .inr (3, [.ref (ad 1), .ref (ad 2), .int (nI (uN u))])), ((ad 2), aF q 6 (fun j => if j < uN u then some (uO u j) else none)), ((ad 1), .inr (1, [.ref (ad 3), .ref (ad 4), .ref (ad 5), .ref (ad 6), .ref (ad 7), .double (uM u), .int (nI (uT u))])), ((ad 3), aI q 8 (uP u)), ((ad 4), aD q 8 (fun i => FP.i2d (uX u i))), ((ad 5), aD q 16 (fun i => FP.i2d (uA u i))), ((ad 6), aD q 16 (fun i => FP.i2d (uB u i))), ((ad 7), aD q 16 (uF u))]) [0, 1, 2, 3, 4, 5, 6, 7] (by decide) rfl
      have hFc := va_freeP (cx := [((ad 0), .inr (3, [.ref (ad 1), .ref (ad 2), .int (nI (uN u))])), ((ad 2), aF q 6 (fun j => if j < uN u then some (uO u j) else none)), ((ad 1), .inr (1, [.ref (ad 3), .ref (ad 4), .ref (ad 5), .ref (ad 6), .ref (ad 7), .double (uM u), .int (nI (uT u))])), ((ad 3), aI q 8 (uP u)), ((ad 4), aD q 8 (fun i => FP.i2d (uX u i))), ((ad 5), aD q 16 (fun i => FP.i2d (uA u i))), ((ad 6), aD q 16 (fun i => FP.i2d (uB u i))), ((ad 7), aD q 16 (uF u))]) hD hS hA [0, 1, 2, 3, 4, 5, 6, 7] rfl
      refine va_calllD hd0 (swd_run (As := [.ref (ad 0), .int (lowV (v >>> (9 &&& 31)) 2001), .int ((1 : Int32) + (lowV (v >>> (6 &&& 31)) 8))]) (rest := []) ⟨hx, hb, hml, hown, (dr_words hts s.drawn)⟩ (h_script hst (lowV (v >>> (9 &&& 31)) 2001) ((1 : Int32) + (lowV (v >>> (6 &&& 31)) 8)) G q H.size ad V u hu) (vx_cwSW 3 (dr_words hts s.drawn) gL_act_L_script rfl rfl rfl (by decide +kernel) ⟨Nat.le_of_ble_eq_true rfl, Nat.le_of_ble_eq_true rfl⟩) ⟨preY_blind, preY_start (s := s.setDrawn s.drawn) hPc hK hDc (hNF.drawn s.drawn) (hNT.drawn s.drawn) (hNC.drawn s.drawn) hS (fun q h => hFc q h)⟩ rfl rfl hl.1 rfl (lv_room (Nat.le_of_ble_eq_true rfl)) dL_act_522 ⟨(by show _ ≤ 11; omega), (by show _ ≤ 73; omega)⟩) hS (fun q _ h => hFc q h) hFc (fun r1 u9 t9 H1 locs ht9 hv99 hw hB9 hz9 hk9 hS du204 hu204 => ?_)
      obtain ⟨u1, rfl⟩ : ∃ z, z = u9 := ⟨_, rfl⟩
      obtain ⟨hP1, hD1⟩ := hB9
      rw [ht9] at hP1
      obtain ⟨hP, hD⟩ := va_joinP (wr := []) (rx := [((ad 0), .inr (3, [.ref (ad 1), .ref (ad 2), .int (nI (uN u1))])), ((ad 2), aF q 6 (fun j => if j < uN u1 then some (uO u1 j) else none)), ((ad 1), .inr (1, [.ref (ad 3), .ref (ad 4), .ref (ad 5), .ref (ad 6), .ref (ad 7), .double (uM u1), .int (nI (uT u1))])), ((ad 3), aI q 8 (uP u1)), ((ad 4), aD q 8 (fun i => FP.i2d (uX u1 i))), ((ad 5), aD q 16 (fun i => FP.i2d (uA u1 i))), ((ad 6), aD q 16 (fun i => FP.i2d (uB u1 i))), ((ad 7), aD q 16 (uF u1))]) (pl1 := TW (uN u1) (WQ q (uC u1))) hP hD [0, 1, 2, 3, 4, 5, 6, 7] [] rfl rfl (by decide) (by decide) hk9 hFc hP1 hD1
      generalize H1 = H at hP hS ⊢
      have hP : va_P G vwCl ([((ad 0), .inr (3, [.ref (ad 1), .ref (ad 2), .int (nI (uN u1))])), ((ad 2), aF q 6 (fun j => if j < uN u1 then some (uO u1 j) else none)), ((ad 1), .inr (1, [.ref (ad 3), .ref (ad 4), .ref (ad 5), .ref (ad 6), .ref (ad 7), .double (uM u1), .int (nI (uT u1))])), ((ad 3), aI q 8 (uP u1)), ((ad 4), aD q 8 (fun i => FP.i2d (uX u1 i))), ((ad 5), aD q 16 (fun i => FP.i2d (uA u1 i))), ((ad 6), aD q 16 (fun i => FP.i2d (uB u1 i))), ((ad 7), aD q 16 (uF u1))] ++ TW (uN u1) (WQ q (uC u1))) H := hP
      have hD : va_D A ([((ad 0), .inr (3, [.ref (ad 1), .ref (ad 2), .int (nI (uN u1))])), ((ad 2), aF q 6 (fun j => if j < uN u1 then some (uO u1 j) else none)), ((ad 1), .inr (1, [.ref (ad 3), .ref (ad 4), .ref (ad 5), .ref (ad 6), .ref (ad 7), .double (uM u1), .int (nI (uT u1))])), ((ad 3), aI q 8 (uP u1)), ((ad 4), aD q 8 (fun i => FP.i2d (uX u1 i))), ((ad 5), aD q 16 (fun i => FP.i2d (uA u1 i))), ((ad 6), aD q 16 (fun i => FP.i2d (uB u1 i))), ((ad 7), aD q 16 (uF u1))] ++ TW (uN u1) (WQ q (uC u1))) := hD
      have hA : vAct v V = vScript (lowV (v >>> (9 &&& 31)) 2001) ((1 : Int32) + (lowV (v >>> (6 &&& 31)) 8)) V := by unfold vAct; rw [if_neg hcnd1]; unfold actE; rw [← hcs]; rw [selV_17]
      rw [← hA] at hw
      refine W.widen (k := 11) (n := 73) (Nat.le_of_ble_eq_true rfl) (Nat.le_of_ble_eq_true rfl) ?_
      have hP9 := hP
      have hD9 := hD
      refine W.endD hu204 ?_
      exact W.lret (v := r1) hx hb hr (fun t ht hW => ⟨⟨r1, u1, rfl, hw, by rw [ht]; exact hP9, hD9⟩, hS.F ht⟩) hS.2.2 dL_act_525
    · skip
      refine lv_tableIn (off := 394) (tgt := 526) hx hb dL_act_132 (by decide) (by decide) (by decide) (by decide) ?_
      refine lv_aload_n hx hb dL_act_526 rfl (lv_at hl 5 rfl) ?_
      refine lv_iload_n hx hb dL_act_527 rfl (lv_at hl 3 rfl) ?_
      refine lv_iload hx hb dL_act_528 (lv_at hl 2 rfl) ?_
      have hPc := hP.part (cx := [((ad 0), .inr (3, [.ref (ad 1), .ref (ad 2), .int (nI (uN u))])), ((ad 2), aF q 6 (fun j => if j < uN u then some (uO u j) else none)), ((ad 1), .inr (1, [.ref (ad 3), .ref (ad 4), .ref (ad 5), .ref (ad 6), .ref (ad 7), .double (uM u), .int (nI (uT u))])), ((ad 3), aI q 8 (uP u)), ((ad 4), aD q 8 (fun i => FP.i2d (uX u i))), ((ad 5), aD q 16 (fun i => FP.i2d (uA u i))), ((ad 6), aD q 16 (fun i => FP.i2d (uB u i))), ((ad 7), aD q 16 (uF u))]) [0, 1, 2, 3, 4, 5, 6, 7] rfl
      have hDc := hD.part (cx := [((ad 0), .inr (3, [.ref (ad 1), .ref (ad 2), .int (nI (uN u))])), ((ad 2), aF q 6 (fun j => if j < uN u then some (uO u j) else none)), ((ad 1), .inr (1, [.ref (ad 3), .ref (ad 4), .ref (ad 5), .ref (ad 6), .ref (ad 7), .double (uM u), .int (nI (uT u))])), ((ad 3), aI q 8 (uP u)), ((ad 4), aD q 8 (fun i => FP.i2d (uX u i))), ((ad 5), aD q 16 (fun i => FP.i2d (uA u i))), ((ad 6), aD q 16 (fun i => FP.i2d (uB u i))), ((ad 7), aD q 16 (uF u))]) [0, 1, 2, 3, 4, 5, 6, 7] (by decide) rfl
      have hFc := va_freeP (cx := [((ad 0), .inr (3, [.ref (ad 1), .ref (ad 2), .int (nI (uN u))])), ((ad 2), aF q 6 (fun j => if j < uN u then some (uO u j) else none)), ((ad 1), .inr (1, [.ref (ad 3), .ref (ad 4), .ref (ad 5), .ref (ad 6), .ref (ad 7), .double (uM u), .int (nI (uT u))])), ((ad 3), aI q 8 (uP u)), ((ad 4), aD q 8 (fun i => FP.i2d (uX u i))), ((ad 5), aD q 16 (fun i => FP.i2d (uA u i))), ((ad 6), aD q 16 (fun i => FP.i2d (uB u i))), ((ad 7), aD q 16 (uF u))]) hD hS hA [0, 1, 2, 3, 4, 5, 6, 7] rfl
      refine va_calllD hd0 (swd_run (As := [.ref (ad 0), .int (lowV (v >>> (5 &&& 31)) 3), .int (lowV (v >>> (8 &&& 31)) 4)]) (rest := []) ⟨hx, hb, hml, hown, (dr_words hts s.drawn)⟩ (h_weight hst (lowV (v >>> (5 &&& 31)) 3) (lowV (v >>> (8 &&& 31)) 4) G q H.size ad V u hu) (vx_cwSW 3 (dr_words hts s.drawn) gL_act_L_weight rfl rfl rfl (by decide +kernel) ⟨Nat.le_of_ble_eq_true rfl, Nat.le_of_ble_eq_true rfl⟩) ⟨preY_blind, preY_start (s := s.setDrawn s.drawn) hPc hK hDc (hNF.drawn s.drawn) (hNT.drawn s.drawn) (hNC.drawn s.drawn) hS (fun q h => hFc q h)⟩ rfl rfl hl.1 rfl (lv_room (Nat.le_of_ble_eq_true rfl)) dL_act_530 ⟨(by show _ ≤ 11; omega), (by show _ ≤ 73; omega)⟩) hS (fun q _ h => hFc q h) hFc (fun r1 u9 t9 H1 locs ht9 hv99 hw hB9 hz9 hk9 hS du205 hu205 => ?_)
      obtain ⟨u1, rfl⟩ : ∃ z, z = u9 := ⟨_, rfl⟩
      obtain ⟨hP1, hD1⟩ := hB9
      rw [ht9] at hP1
      obtain ⟨hP, hD⟩ := va_joinP (wr := []) (rx := [((ad 0), .inr (3, [.ref (ad 1), .ref (ad 2), .int (nI (uN u1))])), ((ad 2), aF q 6 (fun j => if j < uN u1 then some (uO u1 j) else none)), ((ad 1), .inr (1, [.ref (ad 3), .ref (ad 4), .ref (ad 5), .ref (ad 6), .ref (ad 7), .double (uM u1), .int (nI (uT u1))])), ((ad 3), aI q 8 (uP u1)), ((ad 4), aD q 8 (fun i => FP.i2d (uX u1 i))), ((ad 5), aD q 16 (fun i => FP.i2d (uA u1 i))), ((ad 6), aD q 16 (fun i => FP.i2d (uB u1 i))), ((ad 7), aD q 16 (uF u1))]) (pl1 := TW (uN u1) (WQ q (uC u1))) hP hD [0, 1, 2, 3, 4, 5, 6, 7] [] rfl rfl (by decide) (by decide) hk9 hFc hP1 hD1
      generalize H1 = H at hP hS ⊢
      have hP : va_P G vwCl ([((ad 0), .inr (3, [.ref (ad 1), .ref (ad 2), .int (nI (uN u1))])), ((ad 2), aF q 6 (fun j => if j < uN u1 then some (uO u1 j) else none)), ((ad 1), .inr (1, [.ref (ad 3), .ref (ad 4), .ref (ad 5), .ref (ad 6), .ref (ad 7), .double (uM u1), .int (nI (uT u1))])), ((ad 3), aI q 8 (uP u1)), ((ad 4), aD q 8 (fun i => FP.i2d (uX u1 i))), ((ad 5), aD q 16 (fun i => FP.i2d (uA u1 i))), ((ad 6), aD q 16 (fun i => FP.i2d (uB u1 i))), ((ad 7), aD q 16 (uF u1))] ++ TW (uN u1) (WQ q (uC u1))) H := hP
      have hD : va_D A ([((ad 0), .inr (3, [.ref (ad 1), .ref (ad 2), .int (nI (uN u1))])), ((ad 2), aF q 6 (fun j => if j < uN u1 then some (uO u1 j) else none)), ((ad 1), .inr (1, [.ref (ad 3), .ref (ad 4), .ref (ad 5), .ref (ad 6), .ref (ad 7), .double (uM u1), .int (nI (uT u1))])), ((ad 3), aI q 8 (uP u1)), ((ad 4), aD q 8 (fun i => FP.i2d (uX u1 i))), ((ad 5), aD q 16 (fun i => FP.i2d (uA u1 i))), ((ad 6), aD q 16 (fun i => FP.i2d (uB u1 i))), ((ad 7), aD q 16 (uF u1))] ++ TW (uN u1) (WQ q (uC u1))) := hD
      have hA : vAct v V = vWeight (lowV (v >>> (5 &&& 31)) 3) (lowV (v >>> (8 &&& 31)) 4) V := by unfold vAct; rw [if_neg hcnd1]; unfold actE; rw [← hcs]; rw [selV_18]
      rw [← hA] at hw
      refine W.widen (k := 11) (n := 73) (Nat.le_of_ble_eq_true rfl) (Nat.le_of_ble_eq_true rfl) ?_
      have hP9 := hP
      have hD9 := hD
      refine W.endD hu205 ?_
      exact W.lret (v := r1) hx hb hr (fun t ht hW => ⟨⟨r1, u1, rfl, hw, by rw [ht]; exact hP9, hD9⟩, hS.F ht⟩) hS.2.2 dL_act_533
    · skip
      refine lv_tableIn (off := 394) (tgt := 526) hx hb dL_act_132 (by decide) (by decide) (by decide) (by decide) ?_
      refine lv_aload_n hx hb dL_act_526 rfl (lv_at hl 5 rfl) ?_
      refine lv_iload_n hx hb dL_act_527 rfl (lv_at hl 3 rfl) ?_
      refine lv_iload hx hb dL_act_528 (lv_at hl 2 rfl) ?_
      have hPc := hP.part (cx := [((ad 0), .inr (3, [.ref (ad 1), .ref (ad 2), .int (nI (uN u))])), ((ad 2), aF q 6 (fun j => if j < uN u then some (uO u j) else none)), ((ad 1), .inr (1, [.ref (ad 3), .ref (ad 4), .ref (ad 5), .ref (ad 6), .ref (ad 7), .double (uM u), .int (nI (uT u))])), ((ad 3), aI q 8 (uP u)), ((ad 4), aD q 8 (fun i => FP.i2d (uX u i))), ((ad 5), aD q 16 (fun i => FP.i2d (uA u i))), ((ad 6), aD q 16 (fun i => FP.i2d (uB u i))), ((ad 7), aD q 16 (uF u))]) [0, 1, 2, 3, 4, 5, 6, 7] rfl
      have hDc := hD.part (cx := [((ad 0), .inr (3, [.ref (ad 1), .ref (ad 2), .int (nI (uN u))])), ((ad 2), aF q 6 (fun j => if j < uN u then some (uO u j) else none)), ((ad 1), .inr (1, [.ref (ad 3), .ref (ad 4), .ref (ad 5), .ref (ad 6), .ref (ad 7), .double (uM u), .int (nI (uT u))])), ((ad 3), aI q 8 (uP u)), ((ad 4), aD q 8 (fun i => FP.i2d (uX u i))), ((ad 5), aD q 16 (fun i => FP.i2d (uA u i))), ((ad 6), aD q 16 (fun i => FP.i2d (uB u i))), ((ad 7), aD q 16 (uF u))]) [0, 1, 2, 3, 4, 5, 6, 7] (by decide) rfl
      have hFc := va_freeP (cx := [((ad 0), .inr (3, [.ref (ad 1), .ref (ad 2), .int (nI (uN u))])), ((ad 2), aF q 6 (fun j => if j < uN u then some (uO u j) else none)), ((ad 1), .inr (1, [.ref (ad 3), .ref (ad 4), .ref (ad 5), .ref (ad 6), .ref (ad 7), .double (uM u), .int (nI (uT u))])), ((ad 3), aI q 8 (uP u)), ((ad 4), aD q 8 (fun i => FP.i2d (uX u i))), ((ad 5), aD q 16 (fun i => FP.i2d (uA u i))), ((ad 6), aD q 16 (fun i => FP.i2d (uB u i))), ((ad 7), aD q 16 (uF u))]) hD hS hA [0, 1, 2, 3, 4, 5, 6, 7] rfl
      refine va_calllD hd0 (swd_run (As := [.ref (ad 0), .int (lowV (v >>> (5 &&& 31)) 3), .int (lowV (v >>> (8 &&& 31)) 4)]) (rest := []) ⟨hx, hb, hml, hown, (dr_words hts s.drawn)⟩ (h_weight hst (lowV (v >>> (5 &&& 31)) 3) (lowV (v >>> (8 &&& 31)) 4) G q H.size ad V u hu) (vx_cwSW 3 (dr_words hts s.drawn) gL_act_L_weight rfl rfl rfl (by decide +kernel) ⟨Nat.le_of_ble_eq_true rfl, Nat.le_of_ble_eq_true rfl⟩) ⟨preY_blind, preY_start (s := s.setDrawn s.drawn) hPc hK hDc (hNF.drawn s.drawn) (hNT.drawn s.drawn) (hNC.drawn s.drawn) hS (fun q h => hFc q h)⟩ rfl rfl hl.1 rfl (lv_room (Nat.le_of_ble_eq_true rfl)) dL_act_530 ⟨(by show _ ≤ 11; omega), (by show _ ≤ 73; omega)⟩) hS (fun q _ h => hFc q h) hFc (fun r1 u9 t9 H1 locs ht9 hv99 hw hB9 hz9 hk9 hS du206 hu206 => ?_)
      obtain ⟨u1, rfl⟩ : ∃ z, z = u9 := ⟨_, rfl⟩
      obtain ⟨hP1, hD1⟩ := hB9
      rw [ht9] at hP1
      obtain ⟨hP, hD⟩ := va_joinP (wr := []) (rx := [((ad 0), .inr (3, [.ref (ad 1), .ref (ad 2), .int (nI (uN u1))])), ((ad 2), aF q 6 (fun j => if j < uN u1 then some (uO u1 j) else none)), ((ad 1), .inr (1, [.ref (ad 3), .ref (ad 4), .ref (ad 5), .ref (ad 6), .ref (ad 7), .double (uM u1), .int (nI (uT u1))])), ((ad 3), aI q 8 (uP u1)), ((ad 4), aD q 8 (fun i => FP.i2d (uX u1 i))), ((ad 5), aD q 16 (fun i => FP.i2d (uA u1 i))), ((ad 6), aD q 16 (fun i => FP.i2d (uB u1 i))), ((ad 7), aD q 16 (uF u1))]) (pl1 := TW (uN u1) (WQ q (uC u1))) hP hD [0, 1, 2, 3, 4, 5, 6, 7] [] rfl rfl (by decide) (by decide) hk9 hFc hP1 hD1
      generalize H1 = H at hP hS ⊢
      have hP : va_P G vwCl ([((ad 0), .inr (3, [.ref (ad 1), .ref (ad 2), .int (nI (uN u1))])), ((ad 2), aF q 6 (fun j => if j < uN u1 then some (uO u1 j) else none)), ((ad 1), .inr (1, [.ref (ad 3), .ref (ad 4), .ref (ad 5), .ref (ad 6), .ref (ad 7), .double (uM u1), .int (nI (uT u1))])), ((ad 3), aI q 8 (uP u1)), ((ad 4), aD q 8 (fun i => FP.i2d (uX u1 i))), ((ad 5), aD q 16 (fun i => FP.i2d (uA u1 i))), ((ad 6), aD q 16 (fun i => FP.i2d (uB u1 i))), ((ad 7), aD q 16 (uF u1))] ++ TW (uN u1) (WQ q (uC u1))) H := hP
      have hD : va_D A ([((ad 0), .inr (3, [.ref (ad 1), .ref (ad 2), .int (nI (uN u1))])), ((ad 2), aF q 6 (fun j => if j < uN u1 then some (uO u1 j) else none)), ((ad 1), .inr (1, [.ref (ad 3), .ref (ad 4), .ref (ad 5), .ref (ad 6), .ref (ad 7), .double (uM u1), .int (nI (uT u1))])), ((ad 3), aI q 8 (uP u1)), ((ad 4), aD q 8 (fun i => FP.i2d (uX u1 i))), ((ad 5), aD q 16 (fun i => FP.i2d (uA u1 i))), ((ad 6), aD q 16 (fun i => FP.i2d (uB u1 i))), ((ad 7), aD q 16 (uF u1))] ++ TW (uN u1) (WQ q (uC u1))) := hD
      have hA : vAct v V = vWeight (lowV (v >>> (5 &&& 31)) 3) (lowV (v >>> (8 &&& 31)) 4) V := by unfold vAct; rw [if_neg hcnd1]; unfold actE; rw [← hcs]; rw [selV_19]
      rw [← hA] at hw
      refine W.widen (k := 11) (n := 73) (Nat.le_of_ble_eq_true rfl) (Nat.le_of_ble_eq_true rfl) ?_
      have hP9 := hP
      have hD9 := hD
      refine W.endD hu206 ?_
      exact W.lret (v := r1) hx hb hr (fun t ht hW => ⟨⟨r1, u1, rfl, hw, by rw [ht]; exact hP9, hD9⟩, hS.F ht⟩) hS.2.2 dL_act_533
    · skip
      refine lv_tableIn (off := 402) (tgt := 534) hx hb dL_act_132 (by decide) (by decide) (by decide) (by decide) ?_
      refine lv_aload_n hx hb dL_act_534 rfl (lv_at hl 5 rfl) ?_
      refine lv_iload_n hx hb dL_act_535 rfl (lv_at hl 3 rfl) ?_
      refine lv_iload_n hx hb dL_act_536 rfl (lv_at hl 4 rfl) ?_
      refine lv_if_eq (tgt := 545) hx hb dL_act_537 (by decide) (fun _ => ?_) (fun h => absurd (by decide) h)
      refine lv_iload_n hx hb dL_act_545 rfl (lv_at hl 6 rfl) ?_
      refine lv_bipush (v := 9) hx hb dL_act_546 (by decide) ?_
      refine lv_ishr hx hb dL_act_548 ?_
      refine lv_iconst (v := 4) hx hb dL_act_549 (by decide) ?_
      have hPc := hP.sub (ws' := []) [] rfl
      have hDc := hD.sub (ws' := []) [] (by decide) rfl
      have hFc := va_free (wc := []) hD hS hA [] rfl
      refine va_calli (va_runS (As := [.int (v >>> (9 &&& 31)), .int 4]) (rest := [.int (lowV (v >>> (5 &&& 31)) 3), .ref (ad 0)]) ⟨hx, hb, hml, hown, (dr_words hts s.drawn)⟩ (m_L_low l G q H.size (v >>> (9 &&& 31)) 4 (by decide)) (va_cwS 2 (dr_words hts s.drawn) gL_act_L_low rfl rfl rfl (by decide +kernel) ⟨Nat.le_of_ble_eq_true rfl, Nat.le_of_ble_eq_true rfl⟩) ⟨preW_blind, preW_start (s := s.setDrawn s.drawn) hPc hK hDc (hNF.drawn s.drawn)⟩ rfl rfl hl.1 rfl (lv_room (Nat.le_of_ble_eq_true rfl)) dL_act_550 ⟨(by show _ ≤ 11; omega), (by show _ ≤ 73; omega)⟩) hS (fun q _ h => hFc q h) hFc (fun rl u9 t9 H1 locs ht9 hv9 hw hB9 hz9 hk9 hS => ?_)
      obtain ⟨⟩ := u9
      obtain ⟨hP1, hD1⟩ := hB9
      rw [ht9] at hP1
      obtain ⟨hP, hD⟩ := va_joinQ (wr := [((ad 0), .inr (3, [.ref (ad 1), .ref (ad 2), .int (nI (uN u))])), ((ad 2), aF q 6 (fun j => if j < uN u then some (uO u j) else none)), ((ad 1), .inr (1, [.ref (ad 3), .ref (ad 4), .ref (ad 5), .ref (ad 6), .ref (ad 7), .double (uM u), .int (nI (uT u))])), ((ad 3), aI q 8 (uP u)), ((ad 4), aD q 8 (fun i => FP.i2d (uX u i))), ((ad 5), aD q 16 (fun i => FP.i2d (uA u i))), ((ad 6), aD q 16 (fun i => FP.i2d (uB u i))), ((ad 7), aD q 16 (uF u))]) (w1 := []) hP hD [] [0, 1, 2, 3, 4, 5, 6, 7] rfl rfl (by decide) (by decide) hk9 hFc hP1 hD1
      generalize H1 = H at hP hS ⊢
      have hP : va_P G vwCl ([((ad 0), .inr (3, [.ref (ad 1), .ref (ad 2), .int (nI (uN u))])), ((ad 2), aF q 6 (fun j => if j < uN u then some (uO u j) else none)), ((ad 1), .inr (1, [.ref (ad 3), .ref (ad 4), .ref (ad 5), .ref (ad 6), .ref (ad 7), .double (uM u), .int (nI (uT u))])), ((ad 3), aI q 8 (uP u)), ((ad 4), aD q 8 (fun i => FP.i2d (uX u i))), ((ad 5), aD q 16 (fun i => FP.i2d (uA u i))), ((ad 6), aD q 16 (fun i => FP.i2d (uB u i))), ((ad 7), aD q 16 (uF u))] ++ TW (uN u) (WQ q (uC u))) H := hP
      have hD : va_D A ([((ad 0), .inr (3, [.ref (ad 1), .ref (ad 2), .int (nI (uN u))])), ((ad 2), aF q 6 (fun j => if j < uN u then some (uO u j) else none)), ((ad 1), .inr (1, [.ref (ad 3), .ref (ad 4), .ref (ad 5), .ref (ad 6), .ref (ad 7), .double (uM u), .int (nI (uT u))])), ((ad 3), aI q 8 (uP u)), ((ad 4), aD q 8 (fun i => FP.i2d (uX u i))), ((ad 5), aD q 16 (fun i => FP.i2d (uA u i))), ((ad 6), aD q 16 (fun i => FP.i2d (uB u i))), ((ad 7), aD q 16 (uF u))] ++ TW (uN u) (WQ q (uC u))) := hD
      try dsimp only at hw
      subst hw
      have hPc := hP.part (cx := [((ad 0), .inr (3, [.ref (ad 1), .ref (ad 2), .int (nI (uN u))])), ((ad 2), aF q 6 (fun j => if j < uN u then some (uO u j) else none)), ((ad 1), .inr (1, [.ref (ad 3), .ref (ad 4), .ref (ad 5), .ref (ad 6), .ref (ad 7), .double (uM u), .int (nI (uT u))])), ((ad 3), aI q 8 (uP u)), ((ad 4), aD q 8 (fun i => FP.i2d (uX u i))), ((ad 5), aD q 16 (fun i => FP.i2d (uA u i))), ((ad 6), aD q 16 (fun i => FP.i2d (uB u i))), ((ad 7), aD q 16 (uF u))]) [0, 1, 2, 3, 4, 5, 6, 7] rfl
      have hDc := hD.part (cx := [((ad 0), .inr (3, [.ref (ad 1), .ref (ad 2), .int (nI (uN u))])), ((ad 2), aF q 6 (fun j => if j < uN u then some (uO u j) else none)), ((ad 1), .inr (1, [.ref (ad 3), .ref (ad 4), .ref (ad 5), .ref (ad 6), .ref (ad 7), .double (uM u), .int (nI (uT u))])), ((ad 3), aI q 8 (uP u)), ((ad 4), aD q 8 (fun i => FP.i2d (uX u i))), ((ad 5), aD q 16 (fun i => FP.i2d (uA u i))), ((ad 6), aD q 16 (fun i => FP.i2d (uB u i))), ((ad 7), aD q 16 (uF u))]) [0, 1, 2, 3, 4, 5, 6, 7] (by decide) rfl
      have hFc := va_freeP (cx := [((ad 0), .inr (3, [.ref (ad 1), .ref (ad 2), .int (nI (uN u))])), ((ad 2), aF q 6 (fun j => if j < uN u then some (uO u j) else none)), ((ad 1), .inr (1, [.ref (ad 3), .ref (ad 4), .ref (ad 5), .ref (ad 6), .ref (ad 7), .double (uM u), .int (nI (uT u))])), ((ad 3), aI q 8 (uP u)), ((ad 4), aD q 8 (fun i => FP.i2d (uX u i))), ((ad 5), aD q 16 (fun i => FP.i2d (uA u i))), ((ad 6), aD q 16 (fun i => FP.i2d (uB u i))), ((ad 7), aD q 16 (uF u))]) hD hS hA [0, 1, 2, 3, 4, 5, 6, 7] rfl
      refine va_calllD hd0 (swd_run (As := [.ref (ad 0), .int (lowV (v >>> (5 &&& 31)) 3), .int (lowV (v >>> (9 &&& 31)) 4)]) (rest := []) ⟨hx, hb, hml, hown, (dr_words hts s.drawn)⟩ (h_of hst (lowV (v >>> (5 &&& 31)) 3) (lowV (v >>> (9 &&& 31)) 4) G q H.size ad V u hu) (vx_cwSW 3 (dr_words hts s.drawn) gL_act_L_of rfl rfl rfl (by decide +kernel) ⟨Nat.le_of_ble_eq_true rfl, Nat.le_of_ble_eq_true rfl⟩) ⟨preY_blind, preY_start (s := s.setDrawn s.drawn) hPc hK hDc (hNF.drawn s.drawn) (hNT.drawn s.drawn) (hNC.drawn s.drawn) hS (fun q h => hFc q h)⟩ rfl rfl hl.1 rfl (lv_room (Nat.le_of_ble_eq_true rfl)) dL_act_553 ⟨(by show _ ≤ 11; omega), (by show _ ≤ 73; omega)⟩) hS (fun q _ h => hFc q h) hFc (fun r1 u9 t9 H1 locs ht9 hv99 hw hB9 hz9 hk9 hS du209 hu209 => ?_)
      obtain ⟨u1, rfl⟩ : ∃ z, z = u9 := ⟨_, rfl⟩
      obtain ⟨hP1, hD1⟩ := hB9
      rw [ht9] at hP1
      obtain ⟨hP, hD⟩ := va_joinP (wr := []) (rx := [((ad 0), .inr (3, [.ref (ad 1), .ref (ad 2), .int (nI (uN u1))])), ((ad 2), aF q 6 (fun j => if j < uN u1 then some (uO u1 j) else none)), ((ad 1), .inr (1, [.ref (ad 3), .ref (ad 4), .ref (ad 5), .ref (ad 6), .ref (ad 7), .double (uM u1), .int (nI (uT u1))])), ((ad 3), aI q 8 (uP u1)), ((ad 4), aD q 8 (fun i => FP.i2d (uX u1 i))), ((ad 5), aD q 16 (fun i => FP.i2d (uA u1 i))), ((ad 6), aD q 16 (fun i => FP.i2d (uB u1 i))), ((ad 7), aD q 16 (uF u1))]) (pl1 := TW (uN u1) (WQ q (uC u1))) hP hD [0, 1, 2, 3, 4, 5, 6, 7] [] rfl rfl (by decide) (by decide) hk9 hFc hP1 hD1
      generalize H1 = H at hP hS ⊢
      have hP : va_P G vwCl ([((ad 0), .inr (3, [.ref (ad 1), .ref (ad 2), .int (nI (uN u1))])), ((ad 2), aF q 6 (fun j => if j < uN u1 then some (uO u1 j) else none)), ((ad 1), .inr (1, [.ref (ad 3), .ref (ad 4), .ref (ad 5), .ref (ad 6), .ref (ad 7), .double (uM u1), .int (nI (uT u1))])), ((ad 3), aI q 8 (uP u1)), ((ad 4), aD q 8 (fun i => FP.i2d (uX u1 i))), ((ad 5), aD q 16 (fun i => FP.i2d (uA u1 i))), ((ad 6), aD q 16 (fun i => FP.i2d (uB u1 i))), ((ad 7), aD q 16 (uF u1))] ++ TW (uN u1) (WQ q (uC u1))) H := hP
      have hD : va_D A ([((ad 0), .inr (3, [.ref (ad 1), .ref (ad 2), .int (nI (uN u1))])), ((ad 2), aF q 6 (fun j => if j < uN u1 then some (uO u1 j) else none)), ((ad 1), .inr (1, [.ref (ad 3), .ref (ad 4), .ref (ad 5), .ref (ad 6), .ref (ad 7), .double (uM u1), .int (nI (uT u1))])), ((ad 3), aI q 8 (uP u1)), ((ad 4), aD q 8 (fun i => FP.i2d (uX u1 i))), ((ad 5), aD q 16 (fun i => FP.i2d (uA u1 i))), ((ad 6), aD q 16 (fun i => FP.i2d (uB u1 i))), ((ad 7), aD q 16 (uF u1))] ++ TW (uN u1) (WQ q (uC u1))) := hD
      have hA : vAct v V = vOf (lowV (v >>> (5 &&& 31)) 3) (lowV (v >>> (9 &&& 31)) 4) V := by unfold vAct; rw [if_neg hcnd1]; unfold actE; rw [← hcs]; rw [selV_20]
      rw [← hA] at hw
      refine W.widen (k := 11) (n := 73) (Nat.le_of_ble_eq_true rfl) (Nat.le_of_ble_eq_true rfl) ?_
      have hP9 := hP
      have hD9 := hD
      refine W.endD hu209 ?_
      exact W.lret (v := r1) hx hb hr (fun t ht hW => ⟨⟨r1, u1, rfl, hw, by rw [ht]; exact hP9, hD9⟩, hS.F ht⟩) hS.2.2 dL_act_556
    · skip
      refine lv_tableIn (off := 402) (tgt := 534) hx hb dL_act_132 (by decide) (by decide) (by decide) (by decide) ?_
      refine lv_aload_n hx hb dL_act_534 rfl (lv_at hl 5 rfl) ?_
      refine lv_iload_n hx hb dL_act_535 rfl (lv_at hl 3 rfl) ?_
      refine lv_iload_n hx hb dL_act_536 rfl (lv_at hl 4 rfl) ?_
      refine lv_if_eq (tgt := 545) hx hb dL_act_537 (by decide) (fun _ => ?_) (fun h => absurd (by decide) h)
      refine lv_iload_n hx hb dL_act_545 rfl (lv_at hl 6 rfl) ?_
      refine lv_bipush (v := 9) hx hb dL_act_546 (by decide) ?_
      refine lv_ishr hx hb dL_act_548 ?_
      refine lv_iconst (v := 4) hx hb dL_act_549 (by decide) ?_
      have hPc := hP.sub (ws' := []) [] rfl
      have hDc := hD.sub (ws' := []) [] (by decide) rfl
      have hFc := va_free (wc := []) hD hS hA [] rfl
      refine va_calli (va_runS (As := [.int (v >>> (9 &&& 31)), .int 4]) (rest := [.int (lowV (v >>> (5 &&& 31)) 3), .ref (ad 0)]) ⟨hx, hb, hml, hown, (dr_words hts s.drawn)⟩ (m_L_low l G q H.size (v >>> (9 &&& 31)) 4 (by decide)) (va_cwS 2 (dr_words hts s.drawn) gL_act_L_low rfl rfl rfl (by decide +kernel) ⟨Nat.le_of_ble_eq_true rfl, Nat.le_of_ble_eq_true rfl⟩) ⟨preW_blind, preW_start (s := s.setDrawn s.drawn) hPc hK hDc (hNF.drawn s.drawn)⟩ rfl rfl hl.1 rfl (lv_room (Nat.le_of_ble_eq_true rfl)) dL_act_550 ⟨(by show _ ≤ 11; omega), (by show _ ≤ 73; omega)⟩) hS (fun q _ h => hFc q h) hFc (fun rl u9 t9 H1 locs ht9 hv9 hw hB9 hz9 hk9 hS => ?_)
      obtain ⟨⟩ := u9
      obtain ⟨hP1, hD1⟩ := hB9
      rw [ht9] at hP1
      obtain ⟨hP, hD⟩ := va_joinQ (wr := [((ad 0), .inr (3, [.ref (ad 1), .ref (ad 2), .int (nI (uN u))])), ((ad 2), aF q 6 (fun j => if j < uN u then some (uO u j) else none)), ((ad 1), .inr (1, [.ref (ad 3), .ref (ad 4), .ref (ad 5), .ref (ad 6), .ref (ad 7), .double (uM u), .int (nI (uT u))])), ((ad 3), aI q 8 (uP u)), ((ad 4), aD q 8 (fun i => FP.i2d (uX u i))), ((ad 5), aD q 16 (fun i => FP.i2d (uA u i))), ((ad 6), aD q 16 (fun i => FP.i2d (uB u i))), ((ad 7), aD q 16 (uF u))]) (w1 := []) hP hD [] [0, 1, 2, 3, 4, 5, 6, 7] rfl rfl (by decide) (by decide) hk9 hFc hP1 hD1
      generalize H1 = H at hP hS ⊢
      have hP : va_P G vwCl ([((ad 0), .inr (3, [.ref (ad 1), .ref (ad 2), .int (nI (uN u))])), ((ad 2), aF q 6 (fun j => if j < uN u then some (uO u j) else none)), ((ad 1), .inr (1, [.ref (ad 3), .ref (ad 4), .ref (ad 5), .ref (ad 6), .ref (ad 7), .double (uM u), .int (nI (uT u))])), ((ad 3), aI q 8 (uP u)), ((ad 4), aD q 8 (fun i => FP.i2d (uX u i))), ((ad 5), aD q 16 (fun i => FP.i2d (uA u i))), ((ad 6), aD q 16 (fun i => FP.i2d (uB u i))), ((ad 7), aD q 16 (uF u))] ++ TW (uN u) (WQ q (uC u))) H := hP
      have hD : va_D A ([((ad 0), .inr (3, [.ref (ad 1), .ref (ad 2), .int (nI (uN u))])), ((ad 2), aF q 6 (fun j => if j < uN u then some (uO u j) else none)), ((ad 1), .inr (1, [.ref (ad 3), .ref (ad 4), .ref (ad 5), .ref (ad 6), .ref (ad 7), .double (uM u), .int (nI (uT u))])), ((ad 3), aI q 8 (uP u)), ((ad 4), aD q 8 (fun i => FP.i2d (uX u i))), ((ad 5), aD q 16 (fun i => FP.i2d (uA u i))), ((ad 6), aD q 16 (fun i => FP.i2d (uB u i))), ((ad 7), aD q 16 (uF u))] ++ TW (uN u) (WQ q (uC u))) := hD
      try dsimp only at hw
      subst hw
      have hPc := hP.part (cx := [((ad 0), .inr (3, [.ref (ad 1), .ref (ad 2), .int (nI (uN u))])), ((ad 2), aF q 6 (fun j => if j < uN u then some (uO u j) else none)), ((ad 1), .inr (1, [.ref (ad 3), .ref (ad 4), .ref (ad 5), .ref (ad 6), .ref (ad 7), .double (uM u), .int (nI (uT u))])), ((ad 3), aI q 8 (uP u)), ((ad 4), aD q 8 (fun i => FP.i2d (uX u i))), ((ad 5), aD q 16 (fun i => FP.i2d (uA u i))), ((ad 6), aD q 16 (fun i => FP.i2d (uB u i))), ((ad 7), aD q 16 (uF u))]) [0, 1, 2, 3, 4, 5, 6, 7] rfl
      have hDc := hD.part (cx := [((ad 0), .inr (3, [.ref (ad 1), .ref (ad 2), .int (nI (uN u))])), ((ad 2), aF q 6 (fun j => if j < uN u then some (uO u j) else none)), ((ad 1), .inr (1, [.ref (ad 3), .ref (ad 4), .ref (ad 5), .ref (ad 6), .ref (ad 7), .double (uM u), .int (nI (uT u))])), ((ad 3), aI q 8 (uP u)), ((ad 4), aD q 8 (fun i => FP.i2d (uX u i))), ((ad 5), aD q 16 (fun i => FP.i2d (uA u i))), ((ad 6), aD q 16 (fun i => FP.i2d (uB u i))), ((ad 7), aD q 16 (uF u))]) [0, 1, 2, 3, 4, 5, 6, 7] (by decide) rfl
      have hFc := va_freeP (cx := [((ad 0), .inr (3, [.ref (ad 1), .ref (ad 2), .int (nI (uN u))])), ((ad 2), aF q 6 (fun j => if j < uN u then some (uO u j) else none)), ((ad 1), .inr (1, [.ref (ad 3), .ref (ad 4), .ref (ad 5), .ref (ad 6), .ref (ad 7), .double (uM u), .int (nI (uT u))])), ((ad 3), aI q 8 (uP u)), ((ad 4), aD q 8 (fun i => FP.i2d (uX u i))), ((ad 5), aD q 16 (fun i => FP.i2d (uA u i))), ((ad 6), aD q 16 (fun i => FP.i2d (uB u i))), ((ad 7), aD q 16 (uF u))]) hD hS hA [0, 1, 2, 3, 4, 5, 6, 7] rfl
      refine va_calllD hd0 (swd_run (As := [.ref (ad 0), .int (lowV (v >>> (5 &&& 31)) 3), .int (lowV (v >>> (9 &&& 31)) 4)]) (rest := []) ⟨hx, hb, hml, hown, (dr_words hts s.drawn)⟩ (h_of hst (lowV (v >>> (5 &&& 31)) 3) (lowV (v >>> (9 &&& 31)) 4) G q H.size ad V u hu) (vx_cwSW 3 (dr_words hts s.drawn) gL_act_L_of rfl rfl rfl (by decide +kernel) ⟨Nat.le_of_ble_eq_true rfl, Nat.le_of_ble_eq_true rfl⟩) ⟨preY_blind, preY_start (s := s.setDrawn s.drawn) hPc hK hDc (hNF.drawn s.drawn) (hNT.drawn s.drawn) (hNC.drawn s.drawn) hS (fun q h => hFc q h)⟩ rfl rfl hl.1 rfl (lv_room (Nat.le_of_ble_eq_true rfl)) dL_act_553 ⟨(by show _ ≤ 11; omega), (by show _ ≤ 73; omega)⟩) hS (fun q _ h => hFc q h) hFc (fun r1 u9 t9 H1 locs ht9 hv99 hw hB9 hz9 hk9 hS du212 hu212 => ?_)
      obtain ⟨u1, rfl⟩ : ∃ z, z = u9 := ⟨_, rfl⟩
      obtain ⟨hP1, hD1⟩ := hB9
      rw [ht9] at hP1
      obtain ⟨hP, hD⟩ := va_joinP (wr := []) (rx := [((ad 0), .inr (3, [.ref (ad 1), .ref (ad 2), .int (nI (uN u1))])), ((ad 2), aF q 6 (fun j => if j < uN u1 then some (uO u1 j) else none)), ((ad 1), .inr (1, [.ref (ad 3), .ref (ad 4), .ref (ad 5), .ref (ad 6), .ref (ad 7), .double (uM u1), .int (nI (uT u1))])), ((ad 3), aI q 8 (uP u1)), ((ad 4), aD q 8 (fun i => FP.i2d (uX u1 i))), ((ad 5), aD q 16 (fun i => FP.i2d (uA u1 i))), ((ad 6), aD q 16 (fun i => FP.i2d (uB u1 i))), ((ad 7), aD q 16 (uF u1))]) (pl1 := TW (uN u1) (WQ q (uC u1))) hP hD [0, 1, 2, 3, 4, 5, 6, 7] [] rfl rfl (by decide) (by decide) hk9 hFc hP1 hD1
      generalize H1 = H at hP hS ⊢
      have hP : va_P G vwCl ([((ad 0), .inr (3, [.ref (ad 1), .ref (ad 2), .int (nI (uN u1))])), ((ad 2), aF q 6 (fun j => if j < uN u1 then some (uO u1 j) else none)), ((ad 1), .inr (1, [.ref (ad 3), .ref (ad 4), .ref (ad 5), .ref (ad 6), .ref (ad 7), .double (uM u1), .int (nI (uT u1))])), ((ad 3), aI q 8 (uP u1)), ((ad 4), aD q 8 (fun i => FP.i2d (uX u1 i))), ((ad 5), aD q 16 (fun i => FP.i2d (uA u1 i))), ((ad 6), aD q 16 (fun i => FP.i2d (uB u1 i))), ((ad 7), aD q 16 (uF u1))] ++ TW (uN u1) (WQ q (uC u1))) H := hP
      have hD : va_D A ([((ad 0), .inr (3, [.ref (ad 1), .ref (ad 2), .int (nI (uN u1))])), ((ad 2), aF q 6 (fun j => if j < uN u1 then some (uO u1 j) else none)), ((ad 1), .inr (1, [.ref (ad 3), .ref (ad 4), .ref (ad 5), .ref (ad 6), .ref (ad 7), .double (uM u1), .int (nI (uT u1))])), ((ad 3), aI q 8 (uP u1)), ((ad 4), aD q 8 (fun i => FP.i2d (uX u1 i))), ((ad 5), aD q 16 (fun i => FP.i2d (uA u1 i))), ((ad 6), aD q 16 (fun i => FP.i2d (uB u1 i))), ((ad 7), aD q 16 (uF u1))] ++ TW (uN u1) (WQ q (uC u1))) := hD
      have hA : vAct v V = vOf (lowV (v >>> (5 &&& 31)) 3) (lowV (v >>> (9 &&& 31)) 4) V := by unfold vAct; rw [if_neg hcnd1]; unfold actE; rw [← hcs]; rw [selV_21]
      rw [← hA] at hw
      refine W.widen (k := 11) (n := 73) (Nat.le_of_ble_eq_true rfl) (Nat.le_of_ble_eq_true rfl) ?_
      have hP9 := hP
      have hD9 := hD
      refine W.endD hu212 ?_
      exact W.lret (v := r1) hx hb hr (fun t ht hW => ⟨⟨r1, u1, rfl, hw, by rw [ht]; exact hP9, hD9⟩, hS.F ht⟩) hS.2.2 dL_act_556
    · skip
      refine lv_tableIn (off := 425) (tgt := 557) hx hb dL_act_132 (by decide) (by decide) (by decide) (by decide) ?_
      refine lv_aload_n hx hb dL_act_557 rfl (lv_at hl 5 rfl) ?_
      refine lv_iload_n hx hb dL_act_558 rfl (lv_at hl 4 rfl) ?_
      refine lv_if_eq (tgt := 567) hx hb dL_act_559 (by decide) (fun _ => ?_) (fun h => absurd (by decide) h)
      refine lv_iload_n hx hb dL_act_567 rfl (lv_at hl 6 rfl) ?_
      refine lv_bipush (v := 9) hx hb dL_act_568 (by decide) ?_
      refine lv_ishr hx hb dL_act_570 ?_
      refine lv_iconst (v := 2) hx hb dL_act_571 (by decide) ?_
      have hPc := hP.sub (ws' := []) [] rfl
      have hDc := hD.sub (ws' := []) [] (by decide) rfl
      have hFc := va_free (wc := []) hD hS hA [] rfl
      refine va_calli (va_runS (As := [.int (v >>> (9 &&& 31)), .int 2]) (rest := [.ref (ad 0)]) ⟨hx, hb, hml, hown, (dr_words hts s.drawn)⟩ (m_L_low l G q H.size (v >>> (9 &&& 31)) 2 (by decide)) (va_cwS 2 (dr_words hts s.drawn) gL_act_L_low rfl rfl rfl (by decide +kernel) ⟨Nat.le_of_ble_eq_true rfl, Nat.le_of_ble_eq_true rfl⟩) ⟨preW_blind, preW_start (s := s.setDrawn s.drawn) hPc hK hDc (hNF.drawn s.drawn)⟩ rfl rfl hl.1 rfl (lv_room (Nat.le_of_ble_eq_true rfl)) dL_act_572 ⟨(by show _ ≤ 11; omega), (by show _ ≤ 73; omega)⟩) hS (fun q _ h => hFc q h) hFc (fun rl u9 t9 H1 locs ht9 hv9 hw hB9 hz9 hk9 hS => ?_)
      obtain ⟨⟩ := u9
      obtain ⟨hP1, hD1⟩ := hB9
      rw [ht9] at hP1
      obtain ⟨hP, hD⟩ := va_joinQ (wr := [((ad 0), .inr (3, [.ref (ad 1), .ref (ad 2), .int (nI (uN u))])), ((ad 2), aF q 6 (fun j => if j < uN u then some (uO u j) else none)), ((ad 1), .inr (1, [.ref (ad 3), .ref (ad 4), .ref (ad 5), .ref (ad 6), .ref (ad 7), .double (uM u), .int (nI (uT u))])), ((ad 3), aI q 8 (uP u)), ((ad 4), aD q 8 (fun i => FP.i2d (uX u i))), ((ad 5), aD q 16 (fun i => FP.i2d (uA u i))), ((ad 6), aD q 16 (fun i => FP.i2d (uB u i))), ((ad 7), aD q 16 (uF u))]) (w1 := []) hP hD [] [0, 1, 2, 3, 4, 5, 6, 7] rfl rfl (by decide) (by decide) hk9 hFc hP1 hD1
      generalize H1 = H at hP hS ⊢
      have hP : va_P G vwCl ([((ad 0), .inr (3, [.ref (ad 1), .ref (ad 2), .int (nI (uN u))])), ((ad 2), aF q 6 (fun j => if j < uN u then some (uO u j) else none)), ((ad 1), .inr (1, [.ref (ad 3), .ref (ad 4), .ref (ad 5), .ref (ad 6), .ref (ad 7), .double (uM u), .int (nI (uT u))])), ((ad 3), aI q 8 (uP u)), ((ad 4), aD q 8 (fun i => FP.i2d (uX u i))), ((ad 5), aD q 16 (fun i => FP.i2d (uA u i))), ((ad 6), aD q 16 (fun i => FP.i2d (uB u i))), ((ad 7), aD q 16 (uF u))] ++ TW (uN u) (WQ q (uC u))) H := hP
      have hD : va_D A ([((ad 0), .inr (3, [.ref (ad 1), .ref (ad 2), .int (nI (uN u))])), ((ad 2), aF q 6 (fun j => if j < uN u then some (uO u j) else none)), ((ad 1), .inr (1, [.ref (ad 3), .ref (ad 4), .ref (ad 5), .ref (ad 6), .ref (ad 7), .double (uM u), .int (nI (uT u))])), ((ad 3), aI q 8 (uP u)), ((ad 4), aD q 8 (fun i => FP.i2d (uX u i))), ((ad 5), aD q 16 (fun i => FP.i2d (uA u i))), ((ad 6), aD q 16 (fun i => FP.i2d (uB u i))), ((ad 7), aD q 16 (uF u))] ++ TW (uN u) (WQ q (uC u))) := hD
      try dsimp only at hw
      subst hw
      have hPc := hP.part (cx := [((ad 0), .inr (3, [.ref (ad 1), .ref (ad 2), .int (nI (uN u))])), ((ad 2), aF q 6 (fun j => if j < uN u then some (uO u j) else none)), ((ad 1), .inr (1, [.ref (ad 3), .ref (ad 4), .ref (ad 5), .ref (ad 6), .ref (ad 7), .double (uM u), .int (nI (uT u))])), ((ad 3), aI q 8 (uP u)), ((ad 4), aD q 8 (fun i => FP.i2d (uX u i))), ((ad 5), aD q 16 (fun i => FP.i2d (uA u i))), ((ad 6), aD q 16 (fun i => FP.i2d (uB u i))), ((ad 7), aD q 16 (uF u))]) [0, 1, 2, 3, 4, 5, 6, 7] rfl
      have hDc := hD.part (cx := [((ad 0), .inr (3, [.ref (ad 1), .ref (ad 2), .int (nI (uN u))])), ((ad 2), aF q 6 (fun j => if j < uN u then some (uO u j) else none)), ((ad 1), .inr (1, [.ref (ad 3), .ref (ad 4), .ref (ad 5), .ref (ad 6), .ref (ad 7), .double (uM u), .int (nI (uT u))])), ((ad 3), aI q 8 (uP u)), ((ad 4), aD q 8 (fun i => FP.i2d (uX u i))), ((ad 5), aD q 16 (fun i => FP.i2d (uA u i))), ((ad 6), aD q 16 (fun i => FP.i2d (uB u i))), ((ad 7), aD q 16 (uF u))]) [0, 1, 2, 3, 4, 5, 6, 7] (by decide) rfl
      have hFc := va_freeP (cx := [((ad 0), .inr (3, [.ref (ad 1), .ref (ad 2), .int (nI (uN u))])), ((ad 2), aF q 6 (fun j => if j < uN u then some (uO u j) else none)), ((ad 1), .inr (1, [.ref (ad 3), .ref (ad 4), .ref (ad 5), .ref (ad 6), .ref (ad 7), .double (uM u), .int (nI (uT u))])), ((ad 3), aI q 8 (uP u)), ((ad 4), aD q 8 (fun i => FP.i2d (uX u i))), ((ad 5), aD q 16 (fun i => FP.i2d (uA u i))), ((ad 6), aD q 16 (fun i => FP.i2d (uB u i))), ((ad 7), aD q 16 (uF u))]) hD hS hA [0, 1, 2, 3, 4, 5, 6, 7] rfl
      refine va_calllD hd0 (swd_run (As := [.ref (ad 0), .int (lowV (v >>> (9 &&& 31)) 2)]) (rest := []) ⟨hx, hb, hml, hown, (dr_words hts s.drawn)⟩ (h_batch hst (lowV (v >>> (9 &&& 31)) 2) G q H.size ad V u hu) (vx_cwSW 2 (dr_words hts s.drawn) gL_act_L_batch rfl rfl rfl (by decide +kernel) ⟨Nat.le_of_ble_eq_true rfl, Nat.le_of_ble_eq_true rfl⟩) ⟨preY_blind, preY_start (s := s.setDrawn s.drawn) hPc hK hDc (hNF.drawn s.drawn) (hNT.drawn s.drawn) (hNC.drawn s.drawn) hS (fun q h => hFc q h)⟩ rfl rfl hl.1 rfl (lv_room (Nat.le_of_ble_eq_true rfl)) dL_act_575 ⟨(by show _ ≤ 11; omega), (by show _ ≤ 73; omega)⟩) hS (fun q _ h => hFc q h) hFc (fun r1 u9 t9 H1 locs ht9 hv99 hw hB9 hz9 hk9 hS du215 hu215 => ?_)
      obtain ⟨u1, rfl⟩ : ∃ z, z = u9 := ⟨_, rfl⟩
      obtain ⟨hP1, hD1⟩ := hB9
      rw [ht9] at hP1
      obtain ⟨hP, hD⟩ := va_joinP (wr := []) (rx := [((ad 0), .inr (3, [.ref (ad 1), .ref (ad 2), .int (nI (uN u1))])), ((ad 2), aF q 6 (fun j => if j < uN u1 then some (uO u1 j) else none)), ((ad 1), .inr (1, [.ref (ad 3), .ref (ad 4), .ref (ad 5), .ref (ad 6), .ref (ad 7), .double (uM u1), .int (nI (uT u1))])), ((ad 3), aI q 8 (uP u1)), ((ad 4), aD q 8 (fun i => FP.i2d (uX u1 i))), ((ad 5), aD q 16 (fun i => FP.i2d (uA u1 i))), ((ad 6), aD q 16 (fun i => FP.i2d (uB u1 i))), ((ad 7), aD q 16 (uF u1))]) (pl1 := TW (uN u1) (WQ q (uC u1))) hP hD [0, 1, 2, 3, 4, 5, 6, 7] [] rfl rfl (by decide) (by decide) hk9 hFc hP1 hD1
      generalize H1 = H at hP hS ⊢
      have hP : va_P G vwCl ([((ad 0), .inr (3, [.ref (ad 1), .ref (ad 2), .int (nI (uN u1))])), ((ad 2), aF q 6 (fun j => if j < uN u1 then some (uO u1 j) else none)), ((ad 1), .inr (1, [.ref (ad 3), .ref (ad 4), .ref (ad 5), .ref (ad 6), .ref (ad 7), .double (uM u1), .int (nI (uT u1))])), ((ad 3), aI q 8 (uP u1)), ((ad 4), aD q 8 (fun i => FP.i2d (uX u1 i))), ((ad 5), aD q 16 (fun i => FP.i2d (uA u1 i))), ((ad 6), aD q 16 (fun i => FP.i2d (uB u1 i))), ((ad 7), aD q 16 (uF u1))] ++ TW (uN u1) (WQ q (uC u1))) H := hP
      have hD : va_D A ([((ad 0), .inr (3, [.ref (ad 1), .ref (ad 2), .int (nI (uN u1))])), ((ad 2), aF q 6 (fun j => if j < uN u1 then some (uO u1 j) else none)), ((ad 1), .inr (1, [.ref (ad 3), .ref (ad 4), .ref (ad 5), .ref (ad 6), .ref (ad 7), .double (uM u1), .int (nI (uT u1))])), ((ad 3), aI q 8 (uP u1)), ((ad 4), aD q 8 (fun i => FP.i2d (uX u1 i))), ((ad 5), aD q 16 (fun i => FP.i2d (uA u1 i))), ((ad 6), aD q 16 (fun i => FP.i2d (uB u1 i))), ((ad 7), aD q 16 (uF u1))] ++ TW (uN u1) (WQ q (uC u1))) := hD
      have hA : vAct v V = vBatch (lowV (v >>> (9 &&& 31)) 2) V := by unfold vAct; rw [if_neg hcnd1]; unfold actE; rw [← hcs]; rw [selV_22]
      rw [← hA] at hw
      refine W.widen (k := 11) (n := 73) (Nat.le_of_ble_eq_true rfl) (Nat.le_of_ble_eq_true rfl) ?_
      have hP9 := hP
      have hD9 := hD
      refine W.endD hu215 ?_
      exact W.lret (v := r1) hx hb hr (fun t ht hW => ⟨⟨r1, u1, rfl, hw, by rw [ht]; exact hP9, hD9⟩, hS.F ht⟩) hS.2.2 dL_act_578
    · skip
      refine lv_tableIn (off := 447) (tgt := 579) hx hb dL_act_132 (by decide) (by decide) (by decide) (by decide) ?_
      refine lv_aload_n hx hb dL_act_579 rfl (lv_at hl 5 rfl) ?_
      refine lv_iload_n hx hb dL_act_580 rfl (lv_at hl 3 rfl) ?_
      refine lv_iload hx hb dL_act_581 (lv_at hl 2 rfl) ?_
      refine lv_iload_n hx hb dL_act_583 rfl (lv_at hl 4 rfl) ?_
      refine lv_if_eq (tgt := 592) hx hb dL_act_584 (by decide) (fun _ => ?_) (fun h => absurd (by decide) h)
      refine lv_iload_n hx hb dL_act_592 rfl (lv_at hl 6 rfl) ?_
      refine lv_bipush (v := 9) hx hb dL_act_593 (by decide) ?_
      refine lv_ishr hx hb dL_act_595 ?_
      refine lv_iconst (v := 3) hx hb dL_act_596 (by decide) ?_
      have hPc := hP.sub (ws' := []) [] rfl
      have hDc := hD.sub (ws' := []) [] (by decide) rfl
      have hFc := va_free (wc := []) hD hS hA [] rfl
      refine va_calli (va_runS (As := [.int (v >>> (9 &&& 31)), .int 3]) (rest := [.int (lowV (v >>> (8 &&& 31)) 4), .int (lowV (v >>> (5 &&& 31)) 3), .ref (ad 0)]) ⟨hx, hb, hml, hown, (dr_words hts s.drawn)⟩ (m_L_low l G q H.size (v >>> (9 &&& 31)) 3 (by decide)) (va_cwS 2 (dr_words hts s.drawn) gL_act_L_low rfl rfl rfl (by decide +kernel) ⟨Nat.le_of_ble_eq_true rfl, Nat.le_of_ble_eq_true rfl⟩) ⟨preW_blind, preW_start (s := s.setDrawn s.drawn) hPc hK hDc (hNF.drawn s.drawn)⟩ rfl rfl hl.1 rfl (lv_room (Nat.le_of_ble_eq_true rfl)) dL_act_597 ⟨(by show _ ≤ 11; omega), (by show _ ≤ 73; omega)⟩) hS (fun q _ h => hFc q h) hFc (fun rl u9 t9 H1 locs ht9 hv9 hw hB9 hz9 hk9 hS => ?_)
      obtain ⟨⟩ := u9
      obtain ⟨hP1, hD1⟩ := hB9
      rw [ht9] at hP1
      obtain ⟨hP, hD⟩ := va_joinQ (wr := [((ad 0), .inr (3, [.ref (ad 1), .ref (ad 2), .int (nI (uN u))])), ((ad 2), aF q 6 (fun j => if j < uN u then some (uO u j) else none)), ((ad 1), .inr (1, [.ref (ad 3), .ref (ad 4), .ref (ad 5), .ref (ad 6), .ref (ad 7), .double (uM u), .int (nI (uT u))])), ((ad 3), aI q 8 (uP u)), ((ad 4), aD q 8 (fun i => FP.i2d (uX u i))), ((ad 5), aD q 16 (fun i => FP.i2d (uA u i))), ((ad 6), aD q 16 (fun i => FP.i2d (uB u i))), ((ad 7), aD q 16 (uF u))]) (w1 := []) hP hD [] [0, 1, 2, 3, 4, 5, 6, 7] rfl rfl (by decide) (by decide) hk9 hFc hP1 hD1
      generalize H1 = H at hP hS ⊢
      have hP : va_P G vwCl ([((ad 0), .inr (3, [.ref (ad 1), .ref (ad 2), .int (nI (uN u))])), ((ad 2), aF q 6 (fun j => if j < uN u then some (uO u j) else none)), ((ad 1), .inr (1, [.ref (ad 3), .ref (ad 4), .ref (ad 5), .ref (ad 6), .ref (ad 7), .double (uM u), .int (nI (uT u))])), ((ad 3), aI q 8 (uP u)), ((ad 4), aD q 8 (fun i => FP.i2d (uX u i))), ((ad 5), aD q 16 (fun i => FP.i2d (uA u i))), ((ad 6), aD q 16 (fun i => FP.i2d (uB u i))), ((ad 7), aD q 16 (uF u))] ++ TW (uN u) (WQ q (uC u))) H := hP
      have hD : va_D A ([((ad 0), .inr (3, [.ref (ad 1), .ref (ad 2), .int (nI (uN u))])), ((ad 2), aF q 6 (fun j => if j < uN u then some (uO u j) else none)), ((ad 1), .inr (1, [.ref (ad 3), .ref (ad 4), .ref (ad 5), .ref (ad 6), .ref (ad 7), .double (uM u), .int (nI (uT u))])), ((ad 3), aI q 8 (uP u)), ((ad 4), aD q 8 (fun i => FP.i2d (uX u i))), ((ad 5), aD q 16 (fun i => FP.i2d (uA u i))), ((ad 6), aD q 16 (fun i => FP.i2d (uB u i))), ((ad 7), aD q 16 (uF u))] ++ TW (uN u) (WQ q (uC u))) := hD
      try dsimp only at hw
      subst hw
      have hPc := hP.part (cx := [((ad 0), .inr (3, [.ref (ad 1), .ref (ad 2), .int (nI (uN u))])), ((ad 2), aF q 6 (fun j => if j < uN u then some (uO u j) else none)), ((ad 1), .inr (1, [.ref (ad 3), .ref (ad 4), .ref (ad 5), .ref (ad 6), .ref (ad 7), .double (uM u), .int (nI (uT u))])), ((ad 3), aI q 8 (uP u)), ((ad 4), aD q 8 (fun i => FP.i2d (uX u i))), ((ad 5), aD q 16 (fun i => FP.i2d (uA u i))), ((ad 6), aD q 16 (fun i => FP.i2d (uB u i))), ((ad 7), aD q 16 (uF u))]) [0, 1, 2, 3, 4, 5, 6, 7] rfl
      have hDc := hD.part (cx := [((ad 0), .inr (3, [.ref (ad 1), .ref (ad 2), .int (nI (uN u))])), ((ad 2), aF q 6 (fun j => if j < uN u then some (uO u j) else none)), ((ad 1), .inr (1, [.ref (ad 3), .ref (ad 4), .ref (ad 5), .ref (ad 6), .ref (ad 7), .double (uM u), .int (nI (uT u))])), ((ad 3), aI q 8 (uP u)), ((ad 4), aD q 8 (fun i => FP.i2d (uX u i))), ((ad 5), aD q 16 (fun i => FP.i2d (uA u i))), ((ad 6), aD q 16 (fun i => FP.i2d (uB u i))), ((ad 7), aD q 16 (uF u))]) [0, 1, 2, 3, 4, 5, 6, 7] (by decide) rfl
      have hFc := va_freeP (cx := [((ad 0), .inr (3, [.ref (ad 1), .ref (ad 2), .int (nI (uN u))])), ((ad 2), aF q 6 (fun j => if j < uN u then some (uO u j) else none)), ((ad 1), .inr (1, [.ref (ad 3), .ref (ad 4), .ref (ad 5), .ref (ad 6), .ref (ad 7), .double (uM u), .int (nI (uT u))])), ((ad 3), aI q 8 (uP u)), ((ad 4), aD q 8 (fun i => FP.i2d (uX u i))), ((ad 5), aD q 16 (fun i => FP.i2d (uA u i))), ((ad 6), aD q 16 (fun i => FP.i2d (uB u i))), ((ad 7), aD q 16 (uF u))]) hD hS hA [0, 1, 2, 3, 4, 5, 6, 7] rfl
      refine va_calllD hd0 (swd_run (As := [.ref (ad 0), .int (lowV (v >>> (5 &&& 31)) 3), .int (lowV (v >>> (8 &&& 31)) 4), .int (lowV (v >>> (9 &&& 31)) 3)]) (rest := []) ⟨hx, hb, hml, hown, (dr_words hts s.drawn)⟩ (h_square hst (lowV (v >>> (5 &&& 31)) 3) (lowV (v >>> (8 &&& 31)) 4) (lowV (v >>> (9 &&& 31)) 3) G q H.size ad V u hu) (vx_cwSW 4 (dr_words hts s.drawn) gL_act_L_square rfl rfl rfl (by decide +kernel) ⟨Nat.le_of_ble_eq_true rfl, Nat.le_of_ble_eq_true rfl⟩) ⟨preY_blind, preY_start (s := s.setDrawn s.drawn) hPc hK hDc (hNF.drawn s.drawn) (hNT.drawn s.drawn) (hNC.drawn s.drawn) hS (fun q h => hFc q h)⟩ rfl rfl hl.1 rfl (lv_room (Nat.le_of_ble_eq_true rfl)) dL_act_600 ⟨(by show _ ≤ 11; omega), (by show _ ≤ 73; omega)⟩) hS (fun q _ h => hFc q h) hFc (fun r1 u9 t9 H1 locs ht9 hv99 hw hB9 hz9 hk9 hS du218 hu218 => ?_)
      obtain ⟨u1, rfl⟩ : ∃ z, z = u9 := ⟨_, rfl⟩
      obtain ⟨hP1, hD1⟩ := hB9
      rw [ht9] at hP1
      obtain ⟨hP, hD⟩ := va_joinP (wr := []) (rx := [((ad 0), .inr (3, [.ref (ad 1), .ref (ad 2), .int (nI (uN u1))])), ((ad 2), aF q 6 (fun j => if j < uN u1 then some (uO u1 j) else none)), ((ad 1), .inr (1, [.ref (ad 3), .ref (ad 4), .ref (ad 5), .ref (ad 6), .ref (ad 7), .double (uM u1), .int (nI (uT u1))])), ((ad 3), aI q 8 (uP u1)), ((ad 4), aD q 8 (fun i => FP.i2d (uX u1 i))), ((ad 5), aD q 16 (fun i => FP.i2d (uA u1 i))), ((ad 6), aD q 16 (fun i => FP.i2d (uB u1 i))), ((ad 7), aD q 16 (uF u1))]) (pl1 := TW (uN u1) (WQ q (uC u1))) hP hD [0, 1, 2, 3, 4, 5, 6, 7] [] rfl rfl (by decide) (by decide) hk9 hFc hP1 hD1
      generalize H1 = H at hP hS ⊢
      have hP : va_P G vwCl ([((ad 0), .inr (3, [.ref (ad 1), .ref (ad 2), .int (nI (uN u1))])), ((ad 2), aF q 6 (fun j => if j < uN u1 then some (uO u1 j) else none)), ((ad 1), .inr (1, [.ref (ad 3), .ref (ad 4), .ref (ad 5), .ref (ad 6), .ref (ad 7), .double (uM u1), .int (nI (uT u1))])), ((ad 3), aI q 8 (uP u1)), ((ad 4), aD q 8 (fun i => FP.i2d (uX u1 i))), ((ad 5), aD q 16 (fun i => FP.i2d (uA u1 i))), ((ad 6), aD q 16 (fun i => FP.i2d (uB u1 i))), ((ad 7), aD q 16 (uF u1))] ++ TW (uN u1) (WQ q (uC u1))) H := hP
      have hD : va_D A ([((ad 0), .inr (3, [.ref (ad 1), .ref (ad 2), .int (nI (uN u1))])), ((ad 2), aF q 6 (fun j => if j < uN u1 then some (uO u1 j) else none)), ((ad 1), .inr (1, [.ref (ad 3), .ref (ad 4), .ref (ad 5), .ref (ad 6), .ref (ad 7), .double (uM u1), .int (nI (uT u1))])), ((ad 3), aI q 8 (uP u1)), ((ad 4), aD q 8 (fun i => FP.i2d (uX u1 i))), ((ad 5), aD q 16 (fun i => FP.i2d (uA u1 i))), ((ad 6), aD q 16 (fun i => FP.i2d (uB u1 i))), ((ad 7), aD q 16 (uF u1))] ++ TW (uN u1) (WQ q (uC u1))) := hD
      have hA : vAct v V = vSquare (lowV (v >>> (5 &&& 31)) 3) (lowV (v >>> (8 &&& 31)) 4) (lowV (v >>> (9 &&& 31)) 3) V := by unfold vAct; rw [if_neg hcnd1]; unfold actE; rw [← hcs]; rw [selV_23]
      rw [← hA] at hw
      refine W.widen (k := 11) (n := 73) (Nat.le_of_ble_eq_true rfl) (Nat.le_of_ble_eq_true rfl) ?_
      have hP9 := hP
      have hD9 := hD
      refine W.endD hu218 ?_
      exact W.lret (v := r1) hx hb hr (fun t ht hW => ⟨⟨r1, u1, rfl, hw, by rw [ht]; exact hP9, hD9⟩, hS.F ht⟩) hS.2.2 dL_act_603
    · skip
      refine lv_tableIn (off := 472) (tgt := 604) hx hb dL_act_132 (by decide) (by decide) (by decide) (by decide) ?_
      refine lv_aload_n hx hb dL_act_604 rfl (lv_at hl 5 rfl) ?_
      have hPc := hP.part (cx := [((ad 0), .inr (3, [.ref (ad 1), .ref (ad 2), .int (nI (uN u))])), ((ad 2), aF q 6 (fun j => if j < uN u then some (uO u j) else none)), ((ad 1), .inr (1, [.ref (ad 3), .ref (ad 4), .ref (ad 5), .ref (ad 6), .ref (ad 7), .double (uM u), .int (nI (uT u))])), ((ad 3), aI q 8 (uP u))]) [0, 1, 2, 3] rfl
      have hDc := hD.part (cx := [((ad 0), .inr (3, [.ref (ad 1), .ref (ad 2), .int (nI (uN u))])), ((ad 2), aF q 6 (fun j => if j < uN u then some (uO u j) else none)), ((ad 1), .inr (1, [.ref (ad 3), .ref (ad 4), .ref (ad 5), .ref (ad 6), .ref (ad 7), .double (uM u), .int (nI (uT u))])), ((ad 3), aI q 8 (uP u))]) [0, 1, 2, 3] (by decide) rfl
      have hFc := va_freeP (cx := [((ad 0), .inr (3, [.ref (ad 1), .ref (ad 2), .int (nI (uN u))])), ((ad 2), aF q 6 (fun j => if j < uN u then some (uO u j) else none)), ((ad 1), .inr (1, [.ref (ad 3), .ref (ad 4), .ref (ad 5), .ref (ad 6), .ref (ad 7), .double (uM u), .int (nI (uT u))])), ((ad 3), aI q 8 (uP u))]) hD hS hA [0, 1, 2, 3] rfl
      refine va_calliD hd0 (va_runV_D (As := []) (rest := []) ⟨hx, hb, hml, hown, (dr_words hts s.drawn)⟩ (m_X3_best l G q H.size (ad 0) (ad 1) (ad 2) (uN u) (ad 3) (ad 4) (ad 5) (ad 6) (ad 7) (uT u) (uM u) (uP u) (uC u) (uO u) hu.2.1 hu.2.2.2.2.2.2.1 (fun g hg => (hu.2.2.2.2.2.2.2 g hg).2.1)) (cwV 0 (dr_words hts s.drawn) gL_act_X3_best rfl rfl rfl (by decide +kernel) ⟨Nat.le_of_ble_eq_true rfl, Nat.le_of_ble_eq_true rfl⟩) ⟨preW_blind, (va_recv hK hPc (ci := 3) (q0 := 0) rfl rfl), preW_start (s := s.setDrawn s.drawn) hPc hK hDc (hNF.drawn s.drawn)⟩ rfl rfl hl.1 rfl (lv_room (Nat.le_of_ble_eq_true rfl)) dL_act_605 ⟨(by show _ ≤ 11; omega), (by show _ ≤ 73; omega)⟩) hS (fun q _ h => hFc q h) hFc (fun r2 u9 t9 H1 locs ht9 hv9 hw hB9 hz9 hk9 hS du219 hu219 => ?_)
      obtain ⟨⟩ := u9
      obtain ⟨hP1, hD1⟩ := hB9
      rw [ht9] at hP1
      obtain ⟨hP, hD⟩ := va_joinP (wr := [((ad 4), aD q 8 (fun i => FP.i2d (uX u i))), ((ad 5), aD q 16 (fun i => FP.i2d (uA u i))), ((ad 6), aD q 16 (fun i => FP.i2d (uB u i))), ((ad 7), aD q 16 (uF u))]) (rx := [((ad 0), .inr (3, [.ref (ad 1), .ref (ad 2), .int (nI (uN u))])), ((ad 2), aF q 6 (fun j => if j < uN u then some (uO u j) else none)), ((ad 1), .inr (1, [.ref (ad 3), .ref (ad 4), .ref (ad 5), .ref (ad 6), .ref (ad 7), .double (uM u), .int (nI (uT u))])), ((ad 3), aI q 8 (uP u))]) (pl1 := TW (uN u) (WQ q (uC u))) hP hD [0, 1, 2, 3] [4, 5, 6, 7] rfl rfl (by decide) (by decide) hk9 hFc hP1 hD1
      generalize H1 = H at hP hS ⊢
      have hP : va_P G vwCl ([((ad 4), aD q 8 (fun i => FP.i2d (uX u i))), ((ad 5), aD q 16 (fun i => FP.i2d (uA u i))), ((ad 6), aD q 16 (fun i => FP.i2d (uB u i))), ((ad 7), aD q 16 (uF u)), ((ad 0), .inr (3, [.ref (ad 1), .ref (ad 2), .int (nI (uN u))])), ((ad 2), aF q 6 (fun j => if j < uN u then some (uO u j) else none)), ((ad 1), .inr (1, [.ref (ad 3), .ref (ad 4), .ref (ad 5), .ref (ad 6), .ref (ad 7), .double (uM u), .int (nI (uT u))])), ((ad 3), aI q 8 (uP u))] ++ TW (uN u) (WQ q (uC u))) H := hP
      have hD : va_D A ([((ad 4), aD q 8 (fun i => FP.i2d (uX u i))), ((ad 5), aD q 16 (fun i => FP.i2d (uA u i))), ((ad 6), aD q 16 (fun i => FP.i2d (uB u i))), ((ad 7), aD q 16 (uF u)), ((ad 0), .inr (3, [.ref (ad 1), .ref (ad 2), .int (nI (uN u))])), ((ad 2), aF q 6 (fun j => if j < uN u then some (uO u j) else none)), ((ad 1), .inr (1, [.ref (ad 3), .ref (ad 4), .ref (ad 5), .ref (ad 6), .ref (ad 7), .double (uM u), .int (nI (uT u))])), ((ad 3), aI q 8 (uP u))] ++ TW (uN u) (WQ q (uC u))) := hD
      have hb2 := hw
      refine lv_i2l (v := r2.toInt64) hx hb dL_act_608 rfl ?_
      have hA : vAct v V = vBest V := by unfold vAct; rw [if_neg hcnd1]; unfold actE; rw [← hcs]; rw [selV_24]
      have hw : (r2).toInt64 = (vBest V).1 ∧ bOk (vBest V).2 u := ⟨by rw [hb2, best_V hu]; rfl, hu⟩
      rw [← hA] at hw
      refine W.widen (k := 11) (n := 73) (Nat.le_of_ble_eq_true rfl) (Nat.le_of_ble_eq_true rfl) ?_
      have hP := hP.part (cx := [((ad 0), .inr (3, [.ref (ad 1), .ref (ad 2), .int (nI (uN u))])), ((ad 2), aF q 6 (fun j => if j < uN u then some (uO u j) else none)), ((ad 1), .inr (1, [.ref (ad 3), .ref (ad 4), .ref (ad 5), .ref (ad 6), .ref (ad 7), .double (uM u), .int (nI (uT u))])), ((ad 3), aI q 8 (uP u)), ((ad 4), aD q 8 (fun i => FP.i2d (uX u i))), ((ad 5), aD q 16 (fun i => FP.i2d (uA u i))), ((ad 6), aD q 16 (fun i => FP.i2d (uB u i))), ((ad 7), aD q 16 (uF u))]) [4, 5, 6, 7, 0, 1, 2, 3] rfl
      have hD := hD.part (cx := [((ad 0), .inr (3, [.ref (ad 1), .ref (ad 2), .int (nI (uN u))])), ((ad 2), aF q 6 (fun j => if j < uN u then some (uO u j) else none)), ((ad 1), .inr (1, [.ref (ad 3), .ref (ad 4), .ref (ad 5), .ref (ad 6), .ref (ad 7), .double (uM u), .int (nI (uT u))])), ((ad 3), aI q 8 (uP u)), ((ad 4), aD q 8 (fun i => FP.i2d (uX u i))), ((ad 5), aD q 16 (fun i => FP.i2d (uA u i))), ((ad 6), aD q 16 (fun i => FP.i2d (uB u i))), ((ad 7), aD q 16 (uF u))]) [4, 5, 6, 7, 0, 1, 2, 3] (by decide) rfl
      have hP9 := hP
      have hD9 := hD
      refine W.endD hu219 ?_
      exact W.lret (v := r2.toInt64) hx hb hr (fun t ht hW => ⟨⟨r2.toInt64, u, rfl, hw, by rw [ht]; exact hP9, hD9⟩, hS.F ht⟩) hS.2.2 dL_act_609

theorem h_act {l : Launch} (hst : l.stackTraces = false) (v : Int32) : BenC l yL_act wsL_act ({ frames := 10, cells := 11, slots := 73, locals := 294 } : Jvm.Room) (fun ad => [.ref (ad 0), .int v]) (vAct v) 11 73 := fun G q sz ad V u hu => m_L_act l G q sz ad V u v hst hu
