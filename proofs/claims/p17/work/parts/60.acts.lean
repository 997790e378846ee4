/-! ===== what acts keep: the samples' history, and doubles that are numbers within bounds ===== -/
abbrev vX (V : BV) : Nat → Int32 := V.2.2.1.1
def xRel (xs : List Nat) (xi : Nat → Int32) : Prop := ∀ k, k < 4 → (xi k).toInt = ((xs.getD k 1000 : Nat) : Int) - 1000
theorem xRel_cons {xs : List Nat} {xi : Nat → Int32} {x : Int32} {n : Nat} (h : xRel xs xi) (hx : x.toInt = (n : Int) - 1000) : xRel (n :: xs) (shX xi x) := by
  intro k hk
  unfold shX
  by_cases e : k = 0
  · subst e
    exact hx
  · rw [if_neg e, if_pos (by omega)]
    obtain ⟨j, rfl⟩ : ∃ j, k = j + 1 := ⟨k - 1, by omega⟩
    exact h j (by omega)
def IB (xs : List Nat) (ws : List (Nat → Int32)) (V : BV) : Prop :=
  Hist xs ws ∧ (∀ w, w ∈ ws → okW w) ∧ ws.length = xs.length ∧ vT V = xs.length ∧ vNf V ≤ 6 ∧ okPa (vPa V) ∧ small (vX V) ∧ xRel xs (vX V) ∧ fb 1000000 (vMi V) ∧ ∀ g, g < vNf V → GF ws (vMi V) (vF V g)
def GB (as : List (List Nat)) (ws : List (Nat → Int32)) (V : BV) : Prop := (∀ A, A ∈ as → VA A) ∧ (xsOf as).length ≤ 2000 ∧ IB (xsOf as) ws V
theorem small_sh {xi : Nat → Int32} {x : Int32} (h : small xi) (h1 : -1000 ≤ x.toInt ∧ x.toInt ≤ 1000) : small (shX xi x) := by
  intro k hk
  unfold shX
  split
  · exact h1
  · exact h (k - 1) (by omega)
/-- one sample -/
theorem IB_sample {xs : List Nat} {ws : List (Nat → Int32)} {V : BV} {x ta : Int32} {n : Nat} (h : IB xs ws V) (hn : n ≤ 2000) (hx : x.toInt = (n : Int) - 1000) (ht : -1000 ≤ ta.toInt ∧ ta.toInt ≤ 1000) (hl : xs.length < 2000) (hB : HB (shX (vX V) x :: ws)) :
    IB (n :: xs) (shX (vX V) x :: ws) (V.1, V.2.1, bsC hearM V.1 x ta V.2.2) := by
  obtain ⟨h1, h2, h3, h4, h5, h6, h7, h8, h9, h10⟩ := h
  have hs : small (shX (vX V) x) := small_sh h7 (by omega)
  have hr : xRel (n :: xs) (shX (vX V) x) := xRel_cons h8 hx
  have hm : fb 1000000 (sMic ta V.1 (shX (vX V) x)) := mic_fb ht h6 hs
  refine ⟨⟨fun k hk => hr k hk, h1⟩, ?_, by simp [h3], ?_, h5, h6, hs, hr, hm, fun g hg => ?_⟩
  · intro w hw
    rcases List.mem_cons.mp hw with e | e
    · rw [e]; exact okW_small hs
    · exact h2 w e
  · show vT V + 1 = xs.length + 1
    rw [h4]
  · exact GF_hear (h10 g hg) hs h2 hB hm (by omega)
/-! scripts -/
def xiS (a : Nat) (xi : Nat → Int32) : Nat → Nat → Int32
  | 0 => xi
  | k + 1 => shX (xiS a xi k) (nI (scrA a (k + 1)) - 1000)
def wnS (a : Nat) (xi : Nat → Int32) (ws : List (Nat → Int32)) : Nat → List (Nat → Int32)
  | 0 => ws
  | k + 1 => xiS a xi (k + 1) :: wnS a xi ws k
theorem nx_N (a : Nat) : nx a = nxN a := by
  show (7 * a + 1001) % 2001 = nxN a
  rfl
theorem orbL_succ (a k : Nat) : orbL a (k + 1) = orbL a k ++ [scrA a (k + 1)] := by
  have key : ∀ (k a : Nat), ∃ f : Nat → Nat, True ∧ orbL a (k + 1) = orbL a k ++ [scrA a (k + 1)] := by
    intro k
    induction k with
    | zero =>
      intro a
      refine ⟨id, trivial, ?_⟩
      show [nx a] = [nxN a]
      rw [nx_N]
    | succ k ih =>
      intro a
      obtain ⟨-, -, e⟩ := ih (nx a)
      refine ⟨id, trivial, ?_⟩
      have hs : ∀ j, scrA (nx a) j = scrA a (j + 1) := by
        intro j
        induction j with
        | zero => exact nx_N a
        | succ j ih => show nxN (scrA (nx a) j) = nxN (scrA a (j + 1)); rw [ih]
      show nx a :: orbL (nx a) (k + 1) = nx a :: orbL (nx a) k ++ [scrA a (k + 2)]
      rw [e, hs (k + 1)]
      rfl
  exact (key k a).choose_spec.2
theorem scr_int {a : Nat} (h : a ≤ 2000) (k : Nat) : (nI (scrA a (k + 1)) - 1000).toInt = ((scrA a (k + 1) : Nat) : Int) - 1000 := by
  have h1 := scrA_le h (k + 1)
  rw [Int32.toInt_sub, nI_toInt (by omega), show (1000 : Int32).toInt = 1000 by decide]
  exact Int.bmod_eq_of_le (by omega) (by omega)
theorem script_hist {a : Nat} (ha : a ≤ 2000) {xs : List Nat} {xi : Nat → Int32} {ws : List (Nat → Int32)} (h : Hist xs ws) (hr : xRel xs xi) : ∀ k, Hist ((orbL a k).reverse ++ xs) (wnS a xi ws k) ∧ xRel ((orbL a k).reverse ++ xs) (xiS a xi k) := by
  intro k
  induction k with
  | zero => exact ⟨h, hr⟩
  | succ k ih =>
    have e : (orbL a (k + 1)).reverse ++ xs = scrA a (k + 1) :: ((orbL a k).reverse ++ xs) := by
      rw [orbL_succ, List.reverse_append]
      rfl
    rw [e]
    have h2 := xRel_cons ih.2 (scr_int ha k)
    exact ⟨⟨fun j hj => h2 j hj, ih.1⟩, h2⟩
theorem bs_xi (pa : Nat → Int32) (a : Nat) (b : BS) : ∀ k, (bsCN hearM pa a k b).1.1 = xiS a b.1.1 k := by
  intro k
  induction k with
  | zero => rfl
  | succ k ih =>
    show shX (bsCN hearM pa a k b).1.1 _ = shX (xiS a b.1.1 k) _
    rw [ih]
theorem HB_wnS {a : Nat} {xi : Nat → Int32} {ws : List (Nat → Int32)} {n : Nat} (h : HB (wnS a xi ws n)) : ∀ k, k ≤ n → HB (wnS a xi ws k) := by
  induction n with
  | zero => intro k hk; rw [show k = 0 by omega]; exact h
  | succ n ih =>
    intro k hk
    by_cases e : k = n + 1
    · rw [e]; exact h
    · exact ih (HB.tail h) k (by omega)
theorem IB_script {a : Nat} (ha : a ≤ 2000) {xs : List Nat} {ws : List (Nat → Int32)} {V : BV} {m : Nat} (h : IB xs ws V) (hl : xs.length + m ≤ 2000) (hB : HB (wnS a (vX V) ws m)) : ∀ k, k ≤ m → IB ((orbL a k).reverse ++ xs) (wnS a (vX V) ws k) (V.1, V.2.1, bsCN hearM V.1 a k V.2.2) := by
  intro k
  induction k with
  | zero => intro _; exact h
  | succ k ih =>
    intro hk
    have h1 := ih (by omega)
    have e : (orbL a (k + 1)).reverse ++ xs = scrA a (k + 1) :: ((orbL a k).reverse ++ xs) := by
      rw [orbL_succ, List.reverse_append]
      rfl
    have hx : vX (V.1, V.2.1, bsCN hearM V.1 a k V.2.2) = xiS a (vX V) k := bs_xi V.1 a V.2.2 k
    have h2 := IB_sample (x := nI (scrA a (k + 1)) - 1000) (ta := 0) h1 (scrA_le ha (k + 1)) (scr_int ha k) (by decide) (by rw [List.length_append, List.length_reverse, orbL_len]; omega) (by rw [hx]; exact HB_wnS hB (k + 1) hk)
    rw [hx] at h2
    rw [e]
    exact h2
/-! filters -/
theorem IB_up {xs : List Nat} {ws : List (Nat → Int32)} {V : BV} {f : Nat} {g : FV → FV} (h : IB xs ws V) (hg : ∀ v, GF ws (vMi V) v → v = vF V f → GF ws (vMi V) (g v)) : IB xs ws (vUp V f g) := by
  obtain ⟨h1, h2, h3, h4, h5, h6, h7, h8, h9, h10⟩ := h
  refine ⟨h1, h2, h3, h4, h5, h6, h7, h8, h9, fun k hk => ?_⟩
  show GF ws (vMi V) (if k = f then g (vF V k) else vF V k)
  split
  · rename_i e
    exact hg _ (h10 k hk) (by rw [e])
  · exact h10 k hk
theorem low8 (v : Int32) : ∃ k, k < 8 ∧ lowV v 8 = nI k := by
  have h0 : (0 : Int32) ≤ v &&& 2147483647 := by
    have m : ∀ x : Int32, 0 ≤ x ↔ x.toBitVec.msb = false := fun x => by
      rw [BitVec.msb_eq_toInt, decide_eq_false_iff_not, Int32.le_iff_toInt_le]
      exact Int.not_lt.symm
    rw [m, Int32.toBitVec_and, BitVec.msb_and]
    rw [show (2147483647 : Int32).toBitVec.msb = false by decide, Bool.and_false]
  obtain ⟨j, hj, e⟩ := nI_of (Int32.not_lt.mpr h0)
  unfold lowV
  rw [e]
  exact ⟨j % 8, Nat.mod_lt _ (by decide), pk_rem (d := 8) hj (by decide) (by decide)⟩
