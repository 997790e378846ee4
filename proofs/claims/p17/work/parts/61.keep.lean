/-! ===== an act keeps the history and the bounds ===== -/
def Kp (as : List (List Nat)) (X : Int64 × BV) : Prop := ∃ as' ws', as'.length ≤ as.length + 1 ∧ GB as' ws' X.2
theorem Kp.same {as : List (List Nat)} {ws : List (Nat → Int32)} {r : Int64} {V : BV} (h : GB as ws V) : Kp as (r, V) := ⟨as, ws, by omega, h⟩
theorem kp_path {as : List (List Nat)} {ws : List (Nat → Int32)} {V : BV} (h : GB as ws V) (a b : Int32) : Kp as (vPath a b V) := by
  unfold vPath
  split
  · rename_i h0
    obtain ⟨g1, g2, h1, h2, h3, h4, h5, h6, h7, h8, h9, h10⟩ := h
    refine ⟨as, ws, by omega, g1, g2, h1, h2, h3, h4, h5, fun k hk => ?_, h7, h8, h9, h10⟩
    show -1000 ≤ (vf_upd V.1 (tn a) b k).toInt ∧ (vf_upd V.1 (tn a) b k).toInt ≤ 1000
    unfold vf_upd
    split
    · unfold pathC at h0
      by_cases c1 : 0 ≤ a ∧ a ≤ 7
      · rw [if_pos c1] at h0
        by_cases c2 : -1000 ≤ b ∧ b ≤ 1000
        · have e1 := Int32.le_iff_toInt_le.mp c2.1
          have e2 := Int32.le_iff_toInt_le.mp c2.2
          rw [show (-1000 : Int32).toInt = -1000 by decide] at e1
          rw [show (1000 : Int32).toInt = 1000 by decide] at e2
          exact ⟨e1, e2⟩
        · rw [if_neg c2] at h0; exact absurd h0 (by decide)
      · rw [if_neg c1] at h0; exact absurd h0 (by decide)
    · exact h6 k hk
  · exact Kp.same h
theorem kp_filter {as : List (List Nat)} {ws : List (Nat → Int32)} {V : BV} (h : GB as ws V) (kd n st : Int32) : Kp as (vFilter kd n st V) := by
  unfold vFilter
  split
  · rename_i h0
    obtain ⟨g1, g2, h1, h2, h3, h4, h5, h6, h7, h8, h9, h10⟩ := h
    obtain ⟨f1, -, k, -, f2, f3, f4, f5, f6⟩ := filt_ok h5 h0
    refine ⟨as, ws, by omega, g1, g2, h1, h2, h3, h4, f1, h6, h7, h8, h9, fun g hg => ?_⟩
    show GF ws (vMi V) (vf_upd (vF V) (vNf V) (freshFV kd (tn n) st) g)
    have hg2 : g < vNf V + 1 := hg
    unfold vf_upd
    split
    · rw [f2]; exact GF_fresh ws (vMi V) f3 f4 f5 f6
    · rename_i e; exact h10 g (by omega)
  · exact Kp.same h
theorem kp_step {as : List (List Nat)} {ws : List (Nat → Int32)} {V : BV} (h : GB as ws V) (f x : Int32) : Kp as (vStep f x V) := by
  unfold vStep
  split
  · rename_i h0
    refine ⟨as, ws, by omega, h.1, h.2.1, IB_up h.2.2 fun v hv e => GF_step hv ?_⟩
    unfold stepC at h0
    by_cases c1 : isF f (nI (vNf V))
    · rw [if_pos c1] at h0
      by_cases c2 : stpB (vF V (tn f)).1.1 x
      · rw [e]; exact c2
      · rw [if_neg c2] at h0; exact absurd h0 (by decide)
    · rw [if_neg c1] at h0; exact absurd h0 (by decide)
  · exact Kp.same h
theorem kp_watch {as : List (List Nat)} {ws : List (Nat → Int32)} {V : BV} (h : GB as ws V) (f a b : Int32) : Kp as (vWatch f a b V) := by
  unfold vWatch
  split
  · rename_i h0
    refine ⟨as, ws, by omega, h.1, h.2.1, IB_up h.2.2 fun v hv _ => GF_watch hv ?_⟩
    unfold watchC at h0
    by_cases c1 : isF f (nI (vNf V))
    · rw [if_pos c1] at h0
      by_cases c2 : 0 ≤ a ∧ a ≤ 1000
      · rw [if_pos c2] at h0
        by_cases c3 : 0 ≤ b ∧ b ≤ 20
        · exact c3
        · rw [if_neg c3] at h0; exact absurd h0 (by decide)
      · rw [if_neg c2] at h0; exact absurd h0 (by decide)
    · rw [if_neg c1] at h0; exact absurd h0 (by decide)
  · exact Kp.same h
theorem kp_begin {as : List (List Nat)} {ws : List (Nat → Int32)} {V : BV} (h : GB as ws V) (f : Int32) : Kp as (vBegin f V) := by
  unfold vBegin
  split
  · exact ⟨as, ws, by omega, h.1, h.2.1, IB_up h.2.2 fun v hv _ => GF_begin hv⟩
  · exact Kp.same h
theorem int_in {x : Int32} (h : -1000 ≤ x ∧ x ≤ 1000) : -1000 ≤ x.toInt ∧ x.toInt ≤ 1000 := by
  have e1 := Int32.le_iff_toInt_le.mp h.1
  have e2 := Int32.le_iff_toInt_le.mp h.2
  rw [show (-1000 : Int32).toInt = -1000 by decide] at e1
  rw [show (1000 : Int32).toInt = 1000 by decide] at e2
  exact ⟨e1, e2⟩
theorem kp_feed {as : List (List Nat)} {ws : List (Nat → Int32)} {V : BV} (h : GB as ws V) (hn : as.length < 100) (x t : Int32) : Kp as (vFeed x t V) := by
  unfold vFeed
  split
  · rename_i h0
    obtain ⟨g1, g2, g3⟩ := h
    have hT : vT V = (xsOf as).length := g3.2.2.2.1
    rw [hT] at h0
    obtain ⟨f1, f2, f3⟩ := feed_ok g2 h0
    have hx := int_in f2
    have hV : ∀ A, A ∈ [(x.toInt + 1000).toNat] :: as → VA A := by
      intro A hA
      rcases List.mem_cons.mp hA with e | e
      · rw [e]; exact Or.inl ⟨_, by omega, rfl⟩
      · exact g1 A e
    have hxn : x.toInt = (((x.toInt + 1000).toNat : Nat) : Int) - 1000 := by omega
    have hH : Hist (xsOf ([(x.toInt + 1000).toNat] :: as)) (shX (vX V) x :: ws) := ⟨fun k hk => xRel_cons g3.2.2.2.2.2.2.2.1 hxn k hk, g3.1⟩
    have hl : (xsOf ([(x.toInt + 1000).toNat] :: as)).length ≤ 2000 := by
      show (xsOf as).length + 1 ≤ 2000
      omega
    exact ⟨[(x.toInt + 1000).toNat] :: as, shX (vX V) x :: ws, by simp, hV, hl, IB_sample g3 (by omega) hxn (int_in f3) f1 (hist_HB hV (by simp; omega) hl hH)⟩
  · exact Kp.same h
theorem kp_script {as : List (List Nat)} {ws : List (Nat → Int32)} {V : BV} (h : GB as ws V) (hn : as.length < 100) {a m : Int32} (hs : a = m ∨ (∃ k, k < 8 ∧ m = (1 : Int32) + nI k)) : Kp as (vScript a m V) := by
  unfold vScript
  split
  · rename_i h0
    obtain ⟨g1, g2, g3⟩ := h
    have hT : vT V = (xsOf as).length := g3.2.2.2.1
    rw [hT] at h0
    obtain ⟨va, vb, e1, e2, e3, e4, f1, f2, f3, f4⟩ := script_ok g2 h0
    rw [e3, e4]
    have hA : VA (orbL va vb) := by
      rcases hs with e | ⟨k, hk, e⟩
      · refine Or.inr (Or.inr ⟨vb, f2, f3, ?_⟩)
        have : va = vb := by rw [← e3, ← e4, e]
        rw [this]
      · refine Or.inr (Or.inl ⟨va, vb, f1, f2, ?_, rfl⟩)
        have e5 : (1 : Int32) + nI k = nI (1 + k) := nI_add 1 k
        rw [e, e5, tn_nI (by omega)] at e4
        omega
    have hV : ∀ A, A ∈ orbL va vb :: as → VA A := by
      intro A hA2
      rcases List.mem_cons.mp hA2 with e | e
      · rw [e]; exact hA
      · exact g1 A e
    have hl : (xsOf (orbL va vb :: as)).length ≤ 2000 := by
      show ((orbL va vb).reverse ++ xsOf as).length ≤ 2000
      rw [List.length_append, List.length_reverse, orbL_len]
      omega
    have hH := (script_hist f1 g3.1 g3.2.2.2.2.2.2.2.1 vb).1
    exact ⟨orbL va vb :: as, wnS va (vX V) ws vb, by simp, hV, hl, IB_script f1 g3 f4 (hist_HB hV (by simp; omega) hl hH) vb (Nat.le_refl _)⟩
  · exact Kp.same h
theorem kp_sel {as : List (List Nat)} {c : Int32} {x0 x3 x6 x7 x8 x9 x17 x18 x20 x22 x23 x24 x25 : Int64 × BV} (h0 : Kp as x0) (h3 : Kp as x3) (h6 : Kp as x6) (h7 : Kp as x7) (h8 : Kp as x8) (h9 : Kp as x9) (h17 : Kp as x17) (h18 : Kp as x18) (h20 : Kp as x20) (h22 : Kp as x22) (h23 : Kp as x23) (h24 : Kp as x24) (h25 : Kp as x25) :
    Kp as (selV c x0 x3 x6 x7 x8 x9 x17 x18 x20 x22 x23 x24 x25) := by
  unfold selV
  repeat (first | assumption | split)
theorem kp_act {as : List (List Nat)} {ws : List (Nat → Int32)} {V : BV} (h : GB as ws V) (hn : as.length < 100) (v : Int32) : Kp as (vAct v V) := by
  unfold vAct
  split
  · unfold actO
    refine kp_sel (kp_path h _ _) (kp_filter h _ _ _) (kp_step h _ _) (kp_watch h _ _ _) ?_ (kp_feed h hn _ _) (kp_script h hn (Or.inl rfl)) (Kp.same h) (Kp.same h) (Kp.same h) (Kp.same h) (Kp.same h) (Kp.same h)
    split
    · exact kp_begin h _
    · exact Kp.same h
  · unfold actE
    refine kp_sel (kp_path h _ _) (kp_filter h _ _ _) (kp_step h _ _) (kp_watch h _ _ _) ?_ (kp_feed h hn _ _) (kp_script h hn (Or.inr ?_)) (Kp.same h) (Kp.same h) (Kp.same h) (Kp.same h) (Kp.same h) (Kp.same h)
    · split
      · exact kp_begin h _
      · exact Kp.same h
    · obtain ⟨k, h1, h2⟩ := low8 (v >>> (6 &&& 31))
      exact ⟨k, h1, by rw [h2]⟩
