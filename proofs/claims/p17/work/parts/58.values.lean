/-! ===== a bench as a value: its path, how many filters, the rest ===== -/
abbrev BV : Type := (Nat → Int32) × Nat × BS
abbrev vPa (V : BV) : Nat → Int32 := V.1
abbrev vNf (V : BV) : Nat := V.2.1
abbrev vT (V : BV) : Nat := V.2.2.2.2.2.1
abbrev vMi (V : BV) : Dt := V.2.2.2.2.1
abbrev vF (V : BV) : Nat → FV := V.2.2.2.2.2.2
def vSetF (V : BV) (F : Nat → FV) : BV := (V.1, V.2.1, V.2.2.1, V.2.2.2.1, V.2.2.2.2.1, V.2.2.2.2.2.1, F)
def vUp (V : BV) (f : Nat) (g : FV → FV) : BV := vSetF V (fun k => if k = f then g (vF V k) else vF V k)
def vPath (a b : Int32) (V : BV) : Int64 × BV := if pathC a b = 0 then ((V.1 (tn a)).toInt64, (vf_upd V.1 (tn a) b, V.2)) else (sen, V)
def vFilter (kd n st : Int32) (V : BV) : Int64 × BV := if filtC kd n st (nI (vNf V)) = 0 then ((nI (vNf V)).toInt64, (V.1, vNf V + 1, (vSetF V (vf_upd (vF V) (vNf V) (freshFV kd (tn n) st))).2.2)) else (sen, V)
def vStep (f x : Int32) (V : BV) : Int64 × BV := if stepC f x (nI (vNf V)) (vF V (tn f)).1.1 = 0 then ((vF V (tn f)).1.2.2.1.toInt64, vUp V (tn f) (stepV x)) else (sen, V)
def vWatch (f a b : Int32) (V : BV) : Int64 × BV := if watchC f a b (nI (vNf V)) = 0 then (0, vUp V (tn f) (watchV a b)) else (sen, V)
def vBegin (f : Int32) (V : BV) : Int64 × BV := if beginC f (nI (vNf V)) = 0 then (0, vUp V (tn f) beginV) else (sen, V)
def vFeed (x t : Int32) (V : BV) : Int64 × BV := if feedC x t (nI (vT V)) = 0 then ((nI (vT V + 1)).toInt64, (V.1, V.2.1, bsC hearM V.1 x t V.2.2)) else (sen, V)
def vScript (a m : Int32) (V : BV) : Int64 × BV := if scriptC a m (nI (vT V)) = 0 then ((nI (scrA (tn a) (tn m))).toInt64, (V.1, V.2.1, bsCN hearM V.1 (tn a) (tn m) V.2.2)) else (sen, V)
def vWeight (f t : Int32) (V : BV) : Int64 × BV := (if weightC f t (nI (vNf V)) (vF V (tn f)).1.2.1 = 0 then milV ((vF V (tn f)).2.2.2.1 (tn t)) else sen, V)
def vOf (f w : Int32) (V : BV) : Int64 × BV := (if ofC f w (nI (vNf V)) = 0 then milV (ofV V.1 w (vF V (tn f))) else sen, V)
def vCount (f w : Int32) (V : BV) : Int64 × BV := (if ofC f w (nI (vNf V)) = 0 then (countV w (vF V (tn f))).toInt64 else sen, V)
def vBatch (t : Int32) (V : BV) : Int64 × BV := (if batchC t = 0 then milV (sBatch t (vT V) (fun k => fI (V.2.2.1.2.1 k)) (fun k => fI (V.2.2.1.2.2 k)) V.2.2.2.1) else sen, V)
def vSquare (f r c : Int32) (V : BV) : Int64 × BV := (if squareC f r c (nI (vNf V)) (vF V (tn f)).1.2.1 (vF V (tn f)).1.1 = 0 then milV ((vF V (tn f)).2.2.2.2.2 (tn r) (tn c)) else sen, V)
/-- the cells of a bench: (filters, samples, microphone), (path, x, latest x0, latest x1), latest microphones, filters, where they lie -/
abbrev BCt : Type := (Nat × Nat × UInt64) × ((Nat → Int32) × (Nat → Int32) × (Nat → Int32) × (Nat → Int32)) × (Nat → UInt64) × (Nat → CFt) × (Nat → Nat)
abbrev uN (u : BCt) : Nat := u.1.1
abbrev uT (u : BCt) : Nat := u.1.2.1
abbrev uM (u : BCt) : UInt64 := u.1.2.2
abbrev uP (u : BCt) : Nat → Int32 := u.2.1.1
abbrev uX (u : BCt) : Nat → Int32 := u.2.1.2.1
abbrev uA (u : BCt) : Nat → Int32 := u.2.1.2.2.1
abbrev uB (u : BCt) : Nat → Int32 := u.2.1.2.2.2
abbrev uF (u : BCt) : Nat → UInt64 := u.2.2.1
abbrev uC (u : BCt) : Nat → CFt := u.2.2.2.1
abbrev uO (u : BCt) : Nat → Nat := u.2.2.2.2
abbrev bC (q : Nat → ClassId) (ad : Nat → Nat) (u : BCt) : va_W := [(ad 0, .inr (3, [.ref (ad 1), .ref (ad 2), .int (nI (uN u))])), (ad 2, aF q 6 (fun j => if j < uN u then some (uO u j) else none)), (ad 1, .inr (1, [.ref (ad 3), .ref (ad 4), .ref (ad 5), .ref (ad 6), .ref (ad 7), .double (uM u), .int (nI (uT u))])), (ad 3, aI q 8 (uP u)), (ad 4, aD q 8 (fun i => FP.i2d (uX u i))), (ad 5, aD q 16 (fun i => FP.i2d (uA u i))), (ad 6, aD q 16 (fun i => FP.i2d (uB u i))), (ad 7, aD q 16 (uF u))]
abbrev bT (q : Nat → ClassId) (u : BCt) : va_W := TW (uN u) (WQ q (uC u))
def bOk (V : BV) (u : BCt) : Prop := uN u = V.2.1 ∧ uN u ≤ 6 ∧ uP u = V.1 ∧ picC (uN u) (uT u) (uX u) (uA u) (uB u) (uF u) (uM u) (uC u) V.2.2 ∧ uT u ≤ 2000 ∧ small (uX u) ∧ (∀ g, g < uN u → cAd (uC u g) 0 = uO u g) ∧ ∀ g, g < uN u → okF (uT u) (uC u g)
abbrev BenC (l : Launch) (y : MethodName) (ws : List Cond) (rm : Jvm.Room) (args : (Nat → Nat) → List Value) (f : BV → Int64 × BV) (mc ms : Nat) : Prop := ∀ (G : va_G) (q : Nat → ClassId) (sz : Nat) (ad : Nat → Nat) (V : BV) (u : BCt), bOk V u →
  MetD lw_cs l y ws rm (PreY G q (args ad) (bC q ad u ++ bT q u) sz) (va_Ql (fun (r : Int64) (w : BCt) => r = (f V).1 ∧ bOk (f V).2 w) (fun w t => EndA G (va_A (bC q ad u ++ bT q u) sz) (bC q ad w ++ bT q w) t) (va_A (bC q ad u ++ bT q u) sz)) mc ms (va_A (bC q ad u ++ bT q u) sz)
theorem bOk_F {V : BV} {u : BCt} (h : bOk V u) {g : Nat} (hg : g < uN u) : vcF (uC u g) = vF V g := h.2.2.2.1.2.2.2.2 g hg
theorem bOk_T {V : BV} {u : BCt} (h : bOk V u) : vT V = uT u := h.2.2.2.1.2.2.2.1
theorem isF_lt {f : Int32} {n : Nat} (hn : n ≤ 6) (h : isF f (nI n)) : tn f < n := by
  obtain ⟨k, h1, h2, -⟩ := is_fx hn h
  rw [h2]; exact h1
/-- filters replaced, as a value -/
theorem bOk_up {V : BV} {u : BCt} (h : bOk V u) {C : Nat → CFt} {f : Nat} {g : FV → FV} {c : Prop} [Decidable c] (hC : ∀ k, k < uN u → sameF (C k) (uC u k) ∧ okF (uT u) (C k) ∧ vcF (C k) = if c ∧ k = f then g (vcF (uC u k)) else vcF (uC u k)) (hc : c) : bOk (vUp V f g) ((uN u, uT u, uM u), (uP u, uX u, uA u, uB u), uF u, C, uO u) := by
  obtain ⟨h1, h2, h3, h4, h5, h6, h7, h8⟩ := h
  refine ⟨h1, h2, h3, ⟨h4.1, h4.2.1, h4.2.2.1, h4.2.2.2.1, fun k hk => ?_⟩, h5, h6, fun k hk => ?_, fun k hk => (hC k hk).2.1⟩
  · show vcF (C k) = if k = f then g (vF V k) else vF V k
    rw [(hC k hk).2.2, h4.2.2.2.2 k hk]
    by_cases e : k = f
    · rw [if_pos ⟨hc, e⟩, if_pos e]
    · rw [if_neg (fun z => e z.2), if_neg e]
  · show cAd (C k) 0 = uO u k
    rw [show cAd (C k) 0 = cAd (uC u k) 0 from congrFun (hC k hk).1.1 0]
    exact h7 k hk
theorem bOk_no {V : BV} {u : BCt} (h : bOk V u) {C : Nat → CFt} {f : Nat} {g : FV → FV} {c : Prop} [Decidable c] (hC : ∀ k, k < uN u → sameF (C k) (uC u k) ∧ okF (uT u) (C k) ∧ vcF (C k) = if c ∧ k = f then g (vcF (uC u k)) else vcF (uC u k)) (hc : ¬ c) : bOk V ((uN u, uT u, uM u), (uP u, uX u, uA u, uB u), uF u, C, uO u) := by
  obtain ⟨h1, h2, h3, h4, h5, h6, h7, h8⟩ := h
  refine ⟨h1, h2, h3, ⟨h4.1, h4.2.1, h4.2.2.1, h4.2.2.2.1, fun k hk => ?_⟩, h5, h6, fun k hk => ?_, fun k hk => (hC k hk).2.1⟩
  · show vcF (C k) = vF V k
    rw [(hC k hk).2.2, if_neg (fun z => hc z.1), h4.2.2.2.2 k hk]
  · show cAd (C k) 0 = uO u k
    rw [show cAd (C k) 0 = cAd (uC u k) 0 from congrFun (hC k hk).1.1 0]
    exact h7 k hk
theorem h_path {l : Launch} (hst : l.stackTraces = false) (a b : Int32) : BenC l yL_path wsL_path ({ frames := 7, cells := 1, slots := 6, locals := 122 } : Jvm.Room) (fun ad => [.ref (ad 0), .int a, .int b]) (vPath a b) 1 6 := by
  intro G q sz ad V u hu
  have hu0 := hu
  obtain ⟨h1, h2, h3, h4, h5, h6, h7, h8⟩ := hu
  have n1 : vNf V = uN u := h1.symm
  refine (m_L_path l G q sz (ad 0) (ad 1) (ad 2) (uN u) (ad 3) (ad 4) (ad 5) (ad 6) (ad 7) (uT u) (uM u) (uP u) (uX u) (uA u) (uB u) (uF u) (uC u) (uO u) a b hst).cons (fun _ _ h => h) (fun A U d o t hP hQ => ?_) (fun _ h => h)
  obtain ⟨⟨r, v, e1, e2, e3⟩, e4⟩ := hQ
  refine ⟨⟨r, ((uN u, uT u, uM u), (v, uX u, uA u, uB u), uF u, uC u, uO u), e1, ?_, e3⟩, e4⟩
  show r = (vPath a b V).1 ∧ bOk (vPath a b V).2 ((uN u, uT u, uM u), (v, uX u, uA u, uB u), uF u, uC u, uO u)
  unfold vPath
  by_cases h0 : pathC a b = 0
  · obtain ⟨f1, f2⟩ := e2.1 h0
    rw [if_pos h0]
    exact ⟨by rw [f1, h3], h1, h2, by show v = _; rw [f2, h3], h4, h5, h6, h7, h8⟩
  · obtain ⟨f1, f2⟩ := e2.2 h0
    rw [if_neg h0]
    exact ⟨f1, h1, h2, by show v = _; rw [f2, h3], h4, h5, h6, h7, h8⟩
theorem h_step {l : Launch} (hst : l.stackTraces = false) (f x : Int32) : BenC l yL_step wsL_step ({ frames := 7, cells := 1, slots := 6, locals := 124 } : Jvm.Room) (fun ad => [.ref (ad 0), .int f, .int x]) (vStep f x) 1 6 := by
  intro G q sz ad V u hu
  have hu0 := hu
  obtain ⟨h1, h2, h3, h4, h5, h6, h7, h8⟩ := hu
  have n1 : vNf V = uN u := h1.symm
  refine (m_L_step l G q sz (ad 0) (ad 1) (ad 2) (uN u) (ad 3) (ad 4) (ad 5) (ad 6) (ad 7) (uT u) (uM u) (uP u) (uX u) (uA u) (uB u) (uF u) (uC u) (uO u) f x hst h2 h7 h5 h6 h8).cons (fun _ _ h => h) (fun A U d o t hP hQ => ?_) (fun _ h => h)
  obtain ⟨⟨r, v, e1, e2, e3⟩, e4⟩ := hQ
  refine ⟨⟨r, ((uN u, uT u, uM u), (uP u, uX u, uA u, uB u), uF u, v, uO u), e1, ?_, e3⟩, e4⟩
  show r = (vStep f x V).1 ∧ bOk (vStep f x V).2 ((uN u, uT u, uM u), (uP u, uX u, uA u, uB u), uF u, v, uO u)
  have ec : stepC f x (nI (uN u)) (cIn (uC u (tn f)) 0) = stepC f x (nI (vNf V)) (vF V (tn f)).1.1 := by unfold stepC; rw [n1]; by_cases z : isF f (nI (uN u)); (rw [if_pos z, if_pos z, ← bOk_F hu0 (isF_lt h2 z)]; rfl); (rw [if_neg z, if_neg z])
  have ef : isF f (nI (uN u)) → vcF (uC u (tn f)) = vF V (tn f) := fun h => bOk_F hu0 (isF_lt h2 h)
  unfold vStep
  by_cases h0 : stepC f x (nI (uN u)) (cIn (uC u (tn f)) 0) = 0
  · have h9 : stepC f x (nI (vNf V)) (vF V (tn f)).1.1 = 0 := ec ▸ h0
    rw [if_pos h9]
    exact ⟨(e2.2.1 h0).trans (by rw [← ef (by unfold stepC at h0; by_cases z : isF f (nI (uN u)); exact z; (rw [if_neg z] at h0; exact absurd h0 (by decide)))]; rfl), bOk_up hu0 e2.1 h0⟩
  · have h9 : ¬ stepC f x (nI (vNf V)) (vF V (tn f)).1.1 = 0 := ec ▸ h0
    rw [if_neg h9]
    exact ⟨e2.2.2 h0, bOk_no hu0 e2.1 h0⟩
theorem h_watch {l : Launch} (hst : l.stackTraces = false) (f a b : Int32) : BenC l yL_watch wsL_watch ({ frames := 7, cells := 1, slots := 6, locals := 124 } : Jvm.Room) (fun ad => [.ref (ad 0), .int f, .int a, .int b]) (vWatch f a b) 1 6 := by
  intro G q sz ad V u hu
  have hu0 := hu
  obtain ⟨h1, h2, h3, h4, h5, h6, h7, h8⟩ := hu
  have n1 : vNf V = uN u := h1.symm
  refine (m_L_watch l G q sz (ad 0) (ad 1) (ad 2) (uN u) (ad 3) (ad 4) (ad 5) (ad 6) (ad 7) (uT u) (uM u) (uP u) (uX u) (uA u) (uB u) (uF u) (uC u) (uO u) f a b hst h2 h7 h5 h6 h8).cons (fun _ _ h => h) (fun A U d o t hP hQ => ?_) (fun _ h => h)
  obtain ⟨⟨r, v, e1, e2, e3⟩, e4⟩ := hQ
  refine ⟨⟨r, ((uN u, uT u, uM u), (uP u, uX u, uA u, uB u), uF u, v, uO u), e1, ?_, e3⟩, e4⟩
  show r = (vWatch f a b V).1 ∧ bOk (vWatch f a b V).2 ((uN u, uT u, uM u), (uP u, uX u, uA u, uB u), uF u, v, uO u)
  have ec : watchC f a b (nI (uN u)) = watchC f a b (nI (vNf V)) := by rw [n1]
  have ef : isF f (nI (uN u)) → vcF (uC u (tn f)) = vF V (tn f) := fun h => bOk_F hu0 (isF_lt h2 h)
  unfold vWatch
  by_cases h0 : watchC f a b (nI (uN u)) = 0
  · have h9 : watchC f a b (nI (vNf V)) = 0 := ec ▸ h0
    rw [if_pos h9]
    exact ⟨e2.2.1 h0, bOk_up hu0 e2.1 h0⟩
  · have h9 : ¬ watchC f a b (nI (vNf V)) = 0 := ec ▸ h0
    rw [if_neg h9]
    exact ⟨e2.2.2 h0, bOk_no hu0 e2.1 h0⟩
theorem h_begin {l : Launch} (hst : l.stackTraces = false) (f : Int32) : BenC l yL_begin wsL_begin ({ frames := 7, cells := 1, slots := 6, locals := 122 } : Jvm.Room) (fun ad => [.ref (ad 0), .int f]) (vBegin f) 1 6 := by
  intro G q sz ad V u hu
  have hu0 := hu
  obtain ⟨h1, h2, h3, h4, h5, h6, h7, h8⟩ := hu
  have n1 : vNf V = uN u := h1.symm
  refine (m_L_begin l G q sz (ad 0) (ad 1) (ad 2) (uN u) (ad 3) (ad 4) (ad 5) (ad 6) (ad 7) (uT u) (uM u) (uP u) (uX u) (uA u) (uB u) (uF u) (uC u) (uO u) f hst h2 h7 h5 h6 h8).cons (fun _ _ h => h) (fun A U d o t hP hQ => ?_) (fun _ h => h)
  obtain ⟨⟨r, v, e1, e2, e3⟩, e4⟩ := hQ
  refine ⟨⟨r, ((uN u, uT u, uM u), (uP u, uX u, uA u, uB u), uF u, v, uO u), e1, ?_, e3⟩, e4⟩
  show r = (vBegin f V).1 ∧ bOk (vBegin f V).2 ((uN u, uT u, uM u), (uP u, uX u, uA u, uB u), uF u, v, uO u)
  have ec : beginC f (nI (uN u)) = beginC f (nI (vNf V)) := by rw [n1]
  have ef : isF f (nI (uN u)) → vcF (uC u (tn f)) = vF V (tn f) := fun h => bOk_F hu0 (isF_lt h2 h)
  unfold vBegin
  by_cases h0 : beginC f (nI (uN u)) = 0
  · have h9 : beginC f (nI (vNf V)) = 0 := ec ▸ h0
    rw [if_pos h9]
    exact ⟨e2.2.1 h0, bOk_up hu0 e2.1 h0⟩
  · have h9 : ¬ beginC f (nI (vNf V)) = 0 := ec ▸ h0
    rw [if_neg h9]
    exact ⟨e2.2.2 h0, bOk_no hu0 e2.1 h0⟩
theorem h_feed {l : Launch} (hst : l.stackTraces = false) (x t9 : Int32) : BenC l yL_feed wsL_feed ({ frames := 9, cells := 1, slots := 6, locals := 269 } : Jvm.Room) (fun ad => [.ref (ad 0), .int x, .int t9]) (vFeed x t9) 1 6 := by
  intro G q sz ad V u hu
  have hu0 := hu
  obtain ⟨h1, h2, h3, h4, h5, h6, h7, h8⟩ := hu
  have n1 : vNf V = uN u := h1.symm
  refine (m_L_feed l G q sz (hear_all l) (ad 0) (ad 1) (ad 2) (uN u) (ad 3) (ad 4) (ad 5) (ad 6) (ad 7) (uT u) (uM u) (uP u) (uX u) (uA u) (uB u) (uF u) (uC u) (uO u) V.2.2 x t9 hst h2 h7 h5 h6 h8 h4).cons (fun _ _ h => h) (fun A U d o t hP hQ => ?_) (fun _ h => h)
  obtain ⟨⟨r, v, e1, e2, e3⟩, e4⟩ := hQ
  refine ⟨⟨r, ((uN u, v.2.2.2.2.2.2, v.2.2.2.2.1), (uP u, v.1, v.2.1, v.2.2.1), v.2.2.2.1, v.2.2.2.2.2.1, uO u), e1, ?_, e3⟩, e4⟩
  show r = (vFeed x t9 V).1 ∧ bOk (vFeed x t9 V).2 ((uN u, v.2.2.2.2.2.2, v.2.2.2.2.1), (uP u, v.1, v.2.1, v.2.2.1), v.2.2.2.1, v.2.2.2.2.2.1, uO u)
  have eT := bOk_T hu0
  unfold vFeed
  rw [eT]
  by_cases h0 : feedC x t9 (nI (uT u)) = 0
  · rw [if_pos h0]
    rw [if_pos h0] at e2
    refine ⟨e2.2.2.2.2.1 h0, h1, h2, h3, ?_, e2.2.1, e2.2.2.1, fun g hg => ?_, fun g hg => (e2.2.2.2.1 g hg).2⟩
    · rw [← h3]; exact e2.1
    · exact (congrFun (e2.2.2.2.1 g hg).1.1 0).trans (h7 g hg)
  · rw [if_neg h0]
    rw [if_neg h0] at e2
    exact ⟨e2.2.2.2.2.2 h0, h1, h2, h3, e2.1, e2.2.1, e2.2.2.1, fun g hg => (congrFun (e2.2.2.2.1 g hg).1.1 0).trans (h7 g hg), fun g hg => (e2.2.2.2.1 g hg).2⟩
theorem h_script {l : Launch} (hst : l.stackTraces = false) (a m9 : Int32) : BenC l yL_script wsL_script ({ frames := 9, cells := 1, slots := 6, locals := 271 } : Jvm.Room) (fun ad => [.ref (ad 0), .int a, .int m9]) (vScript a m9) 1 6 := by
  intro G q sz ad V u hu
  have hu0 := hu
  obtain ⟨h1, h2, h3, h4, h5, h6, h7, h8⟩ := hu
  have n1 : vNf V = uN u := h1.symm
  refine (m_L_script l G q sz (hear_all l) (ad 0) (ad 1) (ad 2) (uN u) (ad 3) (ad 4) (ad 5) (ad 6) (ad 7) (uT u) (uM u) (uP u) (uX u) (uA u) (uB u) (uF u) (uC u) (uO u) V.2.2 a m9 hst h2 h7 h5 h6 h8 h4).cons (fun _ _ h => h) (fun A U d o t hP hQ => ?_) (fun _ h => h)
  obtain ⟨⟨r, v, e1, e2, e3⟩, e4⟩ := hQ
  refine ⟨⟨r, ((uN u, v.2.2.2.2.2.2, v.2.2.2.2.1), (uP u, v.1, v.2.1, v.2.2.1), v.2.2.2.1, v.2.2.2.2.2.1, uO u), e1, ?_, e3⟩, e4⟩
  show r = (vScript a m9 V).1 ∧ bOk (vScript a m9 V).2 ((uN u, v.2.2.2.2.2.2, v.2.2.2.2.1), (uP u, v.1, v.2.1, v.2.2.1), v.2.2.2.1, v.2.2.2.2.2.1, uO u)
  have eT := bOk_T hu0
  unfold vScript
  rw [eT]
  by_cases h0 : scriptC a m9 (nI (uT u)) = 0
  · rw [if_pos h0]
    rw [if_pos h0] at e2
    refine ⟨e2.2.2.2.2.1 h0, h1, h2, h3, ?_, e2.2.1, e2.2.2.1, fun g hg => ?_, fun g hg => (e2.2.2.2.1 g hg).2⟩
    · rw [← h3]; exact e2.1
    · exact (congrFun (e2.2.2.2.1 g hg).1.1 0).trans (h7 g hg)
  · rw [if_neg h0]
    rw [if_neg h0] at e2
    exact ⟨e2.2.2.2.2.2 h0, h1, h2, h3, e2.1, e2.2.1, e2.2.2.1, fun g hg => (congrFun (e2.2.2.2.1 g hg).1.1 0).trans (h7 g hg), fun g hg => (e2.2.2.2.1 g hg).2⟩
theorem h_weight {l : Launch} (hst : l.stackTraces = false) (f t9 : Int32) : BenC l yL_weight wsL_weight ({ frames := 7, cells := 1, slots := 6, locals := 123 } : Jvm.Room) (fun ad => [.ref (ad 0), .int f, .int t9]) (vWeight f t9) 1 6 := by
  intro G q sz ad V u hu
  have hu0 := hu
  obtain ⟨h1, h2, h3, h4, h5, h6, h7, h8⟩ := hu
  have n1 : vNf V = uN u := h1.symm
  refine (m_L_weight l G q sz (ad 0) (ad 1) (ad 2) (uN u) (ad 3) (ad 4) (ad 5) (ad 6) (ad 7) (uT u) (uM u) (uP u) (uX u) (uA u) (uB u) (uF u) (uC u) (uO u) f t9 hst h2 h7 h5 h6 h8).cons (fun _ _ h => h) (fun A U d o t hP hQ => ?_) (fun _ h => h)
  obtain ⟨⟨r, v, e1, e2, e3⟩, e4⟩ := hQ
  refine ⟨⟨r, ((uN u, uT u, uM u), (uP u, uX u, uA u, uB u), uF u, uC u, uO u), e1, ?_, e3⟩, e4⟩
  show r = (vWeight f t9 V).1 ∧ bOk (vWeight f t9 V).2 ((uN u, uT u, uM u), (uP u, uX u, uA u, uB u), uF u, uC u, uO u)
  refine ⟨?_, hu0⟩
  have ec : weightC f t9 (nI (uN u)) (nI (cNn (uC u (tn f)))) = weightC f t9 (nI (vNf V)) (vF V (tn f)).1.2.1 := by unfold weightC; rw [n1]; by_cases z : isF f (nI (uN u)); (rw [if_pos z, if_pos z, ← bOk_F hu0 (isF_lt h2 z)]; rfl); (rw [if_neg z, if_neg z])
  show r = if weightC f t9 (nI (vNf V)) (vF V (tn f)).1.2.1 = 0 then _ else sen
  by_cases h0 : weightC f t9 (nI (uN u)) (nI (cNn (uC u (tn f)))) = 0
  · have h9 : weightC f t9 (nI (vNf V)) (vF V (tn f)).1.2.1 = 0 := ec ▸ h0
    rw [if_pos h9, e2.1 h0]
    have z : isF f (nI (uN u)) := by unfold weightC at h0; by_cases z : isF f (nI (uN u)); exact z; (rw [if_neg z] at h0; exact absurd h0 (by decide))
    rw [bOk_F hu0 (isF_lt h2 z)]
  · have h9 : ¬ weightC f t9 (nI (vNf V)) (vF V (tn f)).1.2.1 = 0 := ec ▸ h0
    rw [if_neg h9]
    exact e2.2 h0
theorem h_of {l : Launch} (hst : l.stackTraces = false) (f w9 : Int32) : BenC l yL_of wsL_of ({ frames := 7, cells := 1, slots := 6, locals := 123 } : Jvm.Room) (fun ad => [.ref (ad 0), .int f, .int w9]) (vOf f w9) 1 6 := by
  intro G q sz ad V u hu
  have hu0 := hu
  obtain ⟨h1, h2, h3, h4, h5, h6, h7, h8⟩ := hu
  have n1 : vNf V = uN u := h1.symm
  refine (m_L_of l G q sz (ad 0) (ad 1) (ad 2) (uN u) (ad 3) (ad 4) (ad 5) (ad 6) (ad 7) (uT u) (uM u) (uP u) (uX u) (uA u) (uB u) (uF u) (uC u) (uO u) f w9 hst h2 h7 h5 h6 h8).cons (fun _ _ h => h) (fun A U d o t hP hQ => ?_) (fun _ h => h)
  obtain ⟨⟨r, v, e1, e2, e3⟩, e4⟩ := hQ
  refine ⟨⟨r, ((uN u, uT u, uM u), (uP u, uX u, uA u, uB u), uF u, uC u, uO u), e1, ?_, e3⟩, e4⟩
  show r = (vOf f w9 V).1 ∧ bOk (vOf f w9 V).2 ((uN u, uT u, uM u), (uP u, uX u, uA u, uB u), uF u, uC u, uO u)
  refine ⟨?_, hu0⟩
  have ec : ofC f w9 (nI (uN u)) = ofC f w9 (nI (vNf V)) := by rw [n1]
  show r = if ofC f w9 (nI (vNf V)) = 0 then _ else sen
  by_cases h0 : ofC f w9 (nI (uN u)) = 0
  · have h9 : ofC f w9 (nI (vNf V)) = 0 := ec ▸ h0
    rw [if_pos h9, e2.1 h0]
    have z : isF f (nI (uN u)) := by unfold ofC at h0; by_cases z : isF f (nI (uN u)); exact z; (rw [if_neg z] at h0; exact absurd h0 (by decide))
    rw [bOk_F hu0 (isF_lt h2 z)]
    rw [h3]
  · have h9 : ¬ ofC f w9 (nI (vNf V)) = 0 := ec ▸ h0
    rw [if_neg h9]
    exact e2.2 h0
theorem h_count {l : Launch} (hst : l.stackTraces = false) (f w9 : Int32) : BenC l yL_count wsL_count ({ frames := 7, cells := 1, slots := 6, locals := 123 } : Jvm.Room) (fun ad => [.ref (ad 0), .int f, .int w9]) (vCount f w9) 1 6 := by
  intro G q sz ad V u hu
  have hu0 := hu
  obtain ⟨h1, h2, h3, h4, h5, h6, h7, h8⟩ := hu
  have n1 : vNf V = uN u := h1.symm
  refine (m_L_count l G q sz (ad 0) (ad 1) (ad 2) (uN u) (ad 3) (ad 4) (ad 5) (ad 6) (ad 7) (uT u) (uM u) (uP u) (uX u) (uA u) (uB u) (uF u) (uC u) (uO u) f w9 hst h2 h7 h5 h6 h8).cons (fun _ _ h => h) (fun A U d o t hP hQ => ?_) (fun _ h => h)
  obtain ⟨⟨r, v, e1, e2, e3⟩, e4⟩ := hQ
  refine ⟨⟨r, ((uN u, uT u, uM u), (uP u, uX u, uA u, uB u), uF u, uC u, uO u), e1, ?_, e3⟩, e4⟩
  show r = (vCount f w9 V).1 ∧ bOk (vCount f w9 V).2 ((uN u, uT u, uM u), (uP u, uX u, uA u, uB u), uF u, uC u, uO u)
  refine ⟨?_, hu0⟩
  have ec : ofC f w9 (nI (uN u)) = ofC f w9 (nI (vNf V)) := by rw [n1]
  show r = if ofC f w9 (nI (vNf V)) = 0 then _ else sen
  by_cases h0 : ofC f w9 (nI (uN u)) = 0
  · have h9 : ofC f w9 (nI (vNf V)) = 0 := ec ▸ h0
    rw [if_pos h9, e2.1 h0]
    have z : isF f (nI (uN u)) := by unfold ofC at h0; by_cases z : isF f (nI (uN u)); exact z; (rw [if_neg z] at h0; exact absurd h0 (by decide))
    rw [bOk_F hu0 (isF_lt h2 z)]
  · have h9 : ¬ ofC f w9 (nI (vNf V)) = 0 := ec ▸ h0
    rw [if_neg h9]
    exact e2.2 h0
theorem h_batch {l : Launch} (hst : l.stackTraces = false) (t9 : Int32) : BenC l yL_batch wsL_batch ({ frames := 7, cells := 1, slots := 6, locals := 140 } : Jvm.Room) (fun ad => [.ref (ad 0), .int t9]) (vBatch t9) 1 6 := by
  intro G q sz ad V u hu
  have hu0 := hu
  obtain ⟨h1, h2, h3, h4, h5, h6, h7, h8⟩ := hu
  have n1 : vNf V = uN u := h1.symm
  refine (m_L_batch l G q sz (ad 0) (ad 1) (ad 2) (uN u) (ad 3) (ad 4) (ad 5) (ad 6) (ad 7) (uT u) (uM u) (uP u) (uX u) (uA u) (uB u) (uF u) (uC u) (uO u) t9 hst h2 h7 h5 h6 h8).cons (fun _ _ h => h) (fun A U d o t hP hQ => ?_) (fun _ h => h)
  obtain ⟨⟨r, v, e1, e2, e3⟩, e4⟩ := hQ
  refine ⟨⟨r, ((uN u, uT u, uM u), (uP u, uX u, uA u, uB u), uF u, uC u, uO u), e1, ?_, e3⟩, e4⟩
  show r = (vBatch t9 V).1 ∧ bOk (vBatch t9 V).2 ((uN u, uT u, uM u), (uP u, uX u, uA u, uB u), uF u, uC u, uO u)
  refine ⟨?_, hu0⟩
  have ec : batchC t9 = batchC t9 := rfl
  show r = if batchC t9 = 0 then _ else sen
  by_cases h0 : batchC t9 = 0
  · have h9 : batchC t9 = 0 := ec ▸ h0
    rw [if_pos h9, e2.1 h0]
    rw [bOk_T hu0, h4.1, h4.2.1]
  · have h9 : ¬ batchC t9 = 0 := ec ▸ h0
    rw [if_neg h9]
    exact e2.2 h0
theorem h_square {l : Launch} (hst : l.stackTraces = false) (f r9 c9 : Int32) : BenC l yL_square wsL_square ({ frames := 7, cells := 1, slots := 6, locals := 125 } : Jvm.Room) (fun ad => [.ref (ad 0), .int f, .int r9, .int c9]) (vSquare f r9 c9) 1 6 := by
  intro G q sz ad V u hu
  have hu0 := hu
  obtain ⟨h1, h2, h3, h4, h5, h6, h7, h8⟩ := hu
  have n1 : vNf V = uN u := h1.symm
  refine (m_L_square l G q sz (ad 0) (ad 1) (ad 2) (uN u) (ad 3) (ad 4) (ad 5) (ad 6) (ad 7) (uT u) (uM u) (uP u) (uX u) (uA u) (uB u) (uF u) (uC u) (uO u) f r9 c9 hst h2 h7 h5 h6 h8).cons (fun _ _ h => h) (fun A U d o t hP hQ => ?_) (fun _ h => h)
  obtain ⟨⟨r, v, e1, e2, e3⟩, e4⟩ := hQ
  refine ⟨⟨r, ((uN u, uT u, uM u), (uP u, uX u, uA u, uB u), uF u, uC u, uO u), e1, ?_, e3⟩, e4⟩
  show r = (vSquare f r9 c9 V).1 ∧ bOk (vSquare f r9 c9 V).2 ((uN u, uT u, uM u), (uP u, uX u, uA u, uB u), uF u, uC u, uO u)
  refine ⟨?_, hu0⟩
  have ec : squareC f r9 c9 (nI (uN u)) (nI (cNn (uC u (tn f)))) (cIn (uC u (tn f)) 0) = squareC f r9 c9 (nI (vNf V)) (vF V (tn f)).1.2.1 (vF V (tn f)).1.1 := by unfold squareC; rw [n1]; by_cases z : isF f (nI (uN u)); (rw [if_pos z, if_pos z, ← bOk_F hu0 (isF_lt h2 z)]; rfl); (rw [if_neg z, if_neg z])
  show r = if squareC f r9 c9 (nI (vNf V)) (vF V (tn f)).1.2.1 (vF V (tn f)).1.1 = 0 then _ else sen
  by_cases h0 : squareC f r9 c9 (nI (uN u)) (nI (cNn (uC u (tn f)))) (cIn (uC u (tn f)) 0) = 0
  · have h9 : squareC f r9 c9 (nI (vNf V)) (vF V (tn f)).1.2.1 (vF V (tn f)).1.1 = 0 := ec ▸ h0
    rw [if_pos h9, e2.1 h0]
    have z : isF f (nI (uN u)) := by unfold squareC at h0; by_cases z : isF f (nI (uN u)); exact z; (rw [if_neg z] at h0; exact absurd h0 (by decide))
    rw [bOk_F hu0 (isF_lt h2 z)]
  · have h9 : ¬ squareC f r9 c9 (nI (vNf V)) (vF V (tn f)).1.2.1 (vF V (tn f)).1.1 = 0 := ec ▸ h0
    rw [if_neg h9]
    exact e2.2 h0
theorem h_filter {l : Launch} (hst : l.stackTraces = false) (kd n9 st : Int32) : BenC l yL_filter wsL_filter ({ frames := 7, cells := 11, slots := 73, locals := 164 } : Jvm.Room) (fun ad => [.ref (ad 0), .int kd, .int n9, .int st]) (vFilter kd n9 st) 11 73 := by
  intro G q sz ad V u hu
  have hu0 := hu
  obtain ⟨h1, h2, h3, h4, h5, h6, h7, h8⟩ := hu
  have n1 : vNf V = uN u := h1.symm
  refine (m_L_filter l G q sz (ad 0) (ad 1) (ad 2) (uN u) (ad 3) (ad 4) (ad 5) (ad 6) (ad 7) (uT u) (uM u) (uP u) (uX u) (uA u) (uB u) (uF u) (uC u) (uO u) kd n9 st hst h2 h7 h5 h6 h8).cons (fun _ _ h => h) (fun A U d o t hP hQ => ?_) (fun _ h => h)
  obtain ⟨⟨r, v, e1, e2, e3⟩, e4⟩ := hQ
  refine ⟨⟨r, ((v.1, uT u, uM u), (uP u, uX u, uA u, uB u), uF u, v.2.1, v.2.2), e1, ?_, e3⟩, e4⟩
  show r = (vFilter kd n9 st V).1 ∧ bOk (vFilter kd n9 st V).2 ((v.1, uT u, uM u), (uP u, uX u, uA u, uB u), uF u, v.2.1, v.2.2)
  obtain ⟨f1, f2, f3, f4, f5⟩ := e2
  have f6 : filtC kd n9 st (nI (uN u)) = filtC kd n9 st (nI (vNf V)) := by rw [n1]
  unfold vFilter
  by_cases h0 : filtC kd n9 st (nI (uN u)) = 0
  · have h9 : filtC kd n9 st (nI (vNf V)) = 0 := f6 ▸ h0
    obtain ⟨g1, g2, g3⟩ := f4 h0
    rw [if_pos h9]
    refine ⟨by rw [g3, n1], by show v.1 = V.2.1 + 1; rw [g1, h1], f1, h3, ⟨h4.1, h4.2.1, h4.2.2.1, h4.2.2.2.1, fun k hk => ?_⟩, h5, h6, fun k hk => (f2 k hk).1, fun k hk => (f2 k hk).2⟩
    show vcF (v.2.1 k) = vf_upd (vF V) (vNf V) (freshFV kd (tn n9) st) k
    have hk2 : k < v.1 := hk
    unfold vf_upd
    by_cases e : k = vNf V
    · rw [if_pos e, e, ← show uN u = vNf V from h1]; exact g2
    · rw [if_neg e]
      have hk3 : k < uN u := by
        have : uN u = vNf V := h1
        omega
      rw [f3 k hk3]
      exact bOk_F hu0 hk3
  · have h9 : ¬ filtC kd n9 st (nI (vNf V)) = 0 := f6 ▸ h0
    obtain ⟨g1, g2⟩ := f5 h0
    rw [if_neg h9]
    refine ⟨g2, by show v.1 = V.2.1; rw [g1, h1], f1, h3, ⟨h4.1, h4.2.1, h4.2.2.1, h4.2.2.2.1, fun k hk => ?_⟩, h5, h6, fun k hk => (f2 k hk).1, fun k hk => (f2 k hk).2⟩
    have hk2 : k < v.1 := hk
    have hk3 : k < uN u := by omega
    exact (f3 k hk3).trans (bOk_F hu0 hk3)
