/-! ===== the square stays below 2^980, where no plane holds more than 906 of the windows ===== -/
abbrev H100 : UInt64 := 4636737291354636288
def rRes (n : Nat) (mu : Dt) (P : Nat → Nat → Dt) (xi : Nat → Int32) : Bool := decide (rLow n mu P xi) || rOv (fun i => rQ n mu P xi i i) n
/-- P behind a sample -/
def rP (n : Nat) (mu : Dt) (P : Nat → Nat → Dt) (xi : Nat → Int32) (i j : Nat) : Dt := if rRes n mu P xi = true then (if i = j then dV H100 else dV 0) else rQ n mu P xi i j
/-- a weight behind a sample -/
def fHold (x b nb : Dt) : Dt := if fO x b = some .gt then b else if fO x nb = some .lt then nb else x
abbrev fresh (n : Nat) (P : Nat → Nat → Dt) : Prop := ∀ a c, a < n → c < n → P a c = if a = c then dV H100 else dV 0
/-- the squares that an RLS of n taps may have behind these samples, the latest first -/
def Reach (n : Nat) : List (Nat → Int32) → (Nat → Nat → Dt) → Prop
  | [], P => fresh n P
  | w :: ws, P => fresh n P ∨ Reach n ws P ∨ ∃ mu Q, okMu mu ∧ Reach n ws Q ∧ ∀ a c, a < n → c < n → P a c = rP n mu Q w a c
abbrev okW (w : Nat → Int32) : Prop := ∀ j, j < 4 → ab (xr w j) ≤ 1000
/-- no plane beside a place holds more than 906 of the windows -/
def HB (ws : List (Nat → Int32)) : Prop := ∀ i, i < 4 → ∀ Ls : List (Nat → Int32), Ls.Sublist ws → (∀ a b c, a ∈ Ls → b ∈ Ls → c ∈ Ls → detI i a b c = 0) → Ls.length ≤ 906
theorem HB.tail {w : Nat → Int32} {ws : List (Nat → Int32)} (h : HB (w :: ws)) : HB ws := fun i hi Ls hs hd => h i hi Ls (List.Sublist.cons w hs) hd
def Str (n i : Nat) (ws : List (Nat → Int32)) (P : Nat → Nat → Dt) : Prop :=
  (∀ j, j < 4 → ab (rw4 n P i j) ≤ 1180591620717411303424) ∨ ∃ (R : Rat) (Ls : List (Nat → Int32)), Ls.length ≤ 906 ∧ top (rw4 n P i) R ∧ 1180591620717411303424 ≤ R ∧ Ls.Sublist ws ∧ R ≤ 4722366482869645213696 * (1001 / 500) ^ Ls.length ∧ ∀ w, w ∈ Ls → ab (dot (rw4 n P i) w) ≤ ((Ls.length : Rat) + 1) * R / 68719476736
theorem Str.cons {n i : Nat} {ws : List (Nat → Int32)} {P : Nat → Nat → Dt} (h : Str n i ws P) (w : Nat → Int32) : Str n i (w :: ws) P := by
  rcases h with h | ⟨R, Ls, h0, h1, h2, h3, h4⟩
  · exact Or.inl h
  · exact Or.inr ⟨R, Ls, h0, h1, h2, List.Sublist.cons w h3, h4⟩
theorem rw4_congr {n i : Nat} {P Q : Nat → Nat → Dt} (hi : i < n) (h : ∀ a c, a < n → c < n → P a c = Q a c) : rw4 n P i = rw4 n Q i := by
  funext j
  unfold rw4
  by_cases e : j < n
  · rw [if_pos e, if_pos e, h i j hi e]
  · rw [if_neg e, if_neg e]
theorem fresh_ab {n : Nat} {P : Nat → Nat → Dt} (h : fresh n P) {a c : Nat} (ha : a < n) (hc : c < n) : fn (P a c) ∧ ab (rv (P a c)) ≤ 100 ∧ (a = c → rv (P a c) = 100) := by
  rw [h a c ha hc]
  by_cases e : a = c
  · rw [if_pos e, c_100.2]
    exact ⟨c_100.1, by decide +kernel, fun _ => rfl⟩
  · rw [if_neg e, c_zero.2]
    exact ⟨c_zero.1, by decide +kernel, fun z => absurd z e⟩
theorem fresh_ok {n : Nat} {P : Nat → Nat → Dt} (h : fresh n P) (ws : List (Nat → Int32)) : okP n (zp 980) P ∧ ∀ i, i < n → Str n i ws P := by
  have z := zp_980b
  refine ⟨⟨fun a c ha hc => ⟨(fresh_ab h ha hc).1, by have := (fresh_ab h ha hc).2.1; grind⟩, fun i hi => ?_⟩, fun i hi => Or.inl fun j hj => ?_⟩
  · have := (fresh_ab h hi hi).2.2 rfl
    grind
  · unfold rw4
    split
    · rename_i hj2
      have := (fresh_ab h hi hj2).2.1
      grind
    · rw [ab_zero]; decide +kernel
theorem grow_mono {a b : Nat} (h : a ≤ b) : ((1001 / 500 : Rat)) ^ a ≤ (1001 / 500) ^ b := by
  induction b with
  | zero => rw [show a = 0 by omega]; exact Rat.le_refl
  | succ b ih =>
    by_cases e : a = b + 1
    · rw [e]; exact Rat.le_refl
    · have h1 := ih (by omega)
      have h2 : (0 : Rat) < (1001 / 500) ^ b := Rat.pow_pos (by decide +kernel)
      rw [Rat.pow_succ]
      grind
theorem grow_906 : (4722366482869645213696 : Rat) * (1001 / 500) ^ 906 ≤ zp 980 := by decide +kernel
theorem rw4_ab {n i : Nat} {P : Nat → Nat → Dt} {M : Rat} (hi : i < n) (hM : 0 ≤ M) (h : ∀ a c, a < n → c < n → fn (P a c) ∧ ab (rv (P a c)) ≤ M) : ∀ j, j < 4 → ab (rw4 n P i j) ≤ M := by
  intro j _
  unfold rw4
  split
  · rename_i hj
    exact (h i j hi hj).2
  · rw [ab_zero]; exact hM
/-- with at most 906 windows, every row is below 2^980 -/
theorem str_top {n i : Nat} {ws : List (Nat → Int32)} {P : Nat → Nat → Dt} (h : Str n i ws P) : ∀ j, j < 4 → ab (rw4 n P i j) ≤ zp 980 := by
  have z := grow_906
  rcases h with h | ⟨R, Ls, h0, h1, h2, h3, h4, h5⟩
  · intro j hj
    have b : (1180591620717411303424 : Rat) ≤ zp 980 := by decide +kernel
    exact Rat.le_trans (h j hj) b
  · intro j hj
    have b := Rat.mul_le_mul_of_nonneg_left (c := 4722366482869645213696) (grow_mono h0) (by decide +kernel)
    exact Rat.le_trans (h1.1 j hj) (Rat.le_trans h4 (Rat.le_trans b z))
theorem det_triples {i : Nat} (hi : i < 4) {v : Nat → Rat} {R : Rat} (hR : top v R) (hR0 : 1180591620717411303424 ≤ R) (hvi : ab (v i) ≤ 1000000) {Ls : List (Nat → Int32)} {C : Rat} (hC : C ≤ 2002) (hw : ∀ w, w ∈ Ls → okW w) (hd : ∀ w, w ∈ Ls → ab (dot v w) ≤ C * R / 68719476736) : ∀ a b c, a ∈ Ls → b ∈ Ls → c ∈ Ls → detI i a b c = 0 := by
  have hC2 := Rat.mul_le_mul_of_nonneg_right hC (show 0 ≤ R by grind)
  have up : ∀ w, w ∈ Ls → ab (dot v w) ≤ 2002 * R / 68719476736 := fun w h => by have := hd w h; grind
  intro a b c ha hb hc
  exact three hi hR hR0 hvi (hw a ha) (hw b hb) (hw c hc) (up a ha) (up b hb) (up c hc)
/-- a step that isn't reset, of a row -/
theorem str_step {n i : Nat} (hi4 : i < 4) {w : Nat → Int32} {ws : List (Nat → Int32)} {P Q : Nat → Nat → Dt} {s : Rat} (hw : ∀ x, x ∈ w :: ws → okW x) (hB : HB (w :: ws)) (hst : stepR (rw4 n Q i) (rw4 n P i) s) (hd : ab (rw4 n P i i) ≤ 1000000)
    (hg : ∀ R, top (rw4 n Q i) R → 1180591620717411303424 ≤ R → ab (dot (rw4 n Q i) w) ≤ 4294967296 + R / 68719476736) (h : Str n i ws Q) : Str n i (w :: ws) P := by
  obtain ⟨S, hS⟩ := top_ex (rw4 n P i)
  by_cases hS0 : S ≤ 1180591620717411303424
  · exact Or.inl fun j hj => Rat.le_trans (hS.1 j hj) hS0
  · have hS1 : 1180591620717411303424 ≤ S := Rat.le_of_lt (Rat.not_le.mp hS0)
    rcases h with h | ⟨R, Ls, h0, h1, h2, h3, h4, h5⟩
    · refine Or.inr ⟨S, [], by decide, hS, hS1, List.nil_sublist _, ?_, fun x hx => absurd hx (List.not_mem_nil)⟩
      obtain ⟨-, j, hj, e⟩ := hS
      have a := step_up hst h Rat.le_refl j hj
      rw [e] at a
      show S ≤ 4722366482869645213696 * (1001 / 500) ^ 0
      rw [Rat.pow_zero]
      grind
    · have hC0 : (0 : Rat) ≤ (Ls.length : Rat) := Rat.natCast_nonneg
      have hC9 : (Ls.length : Rat) ≤ 906 := by
        have := Rat.natCast_le_natCast.mpr h0
        exact this
      have hres : ∀ x, x ∈ w :: Ls → ab (dot (rw4 n P i) x) ≤ ((Ls.length : Rat) + 1 + 1) * S / 68719476736 := by
        intro x hx
        rcases List.mem_cons.mp hx with e | e
        · subst e
          have a := res_new hst h1 hS h2 (hw _ List.mem_cons_self) (hg R h1 h2)
          have b := Rat.mul_nonneg hC0 (show 0 ≤ S by grind)
          grind
        · exact res_step hst h1 hS h2 (hw x (List.mem_cons_of_mem _ (h3.subset e))) (by grind) (by grind) (h5 x e)
      have hsub : (w :: Ls).Sublist (w :: ws) := List.Sublist.cons_cons w h3
      have hdet := det_triples (Ls := w :: Ls) (C := (Ls.length : Rat) + 1 + 1) hi4 hS hS1 hd (by grind) (fun x hx => hw x (hsub.subset hx)) hres
      have hlen := hB i hi4 (w :: Ls) hsub hdet
      refine Or.inr ⟨S, w :: Ls, hlen, hS, hS1, hsub, ?_, ?_⟩
      · obtain ⟨-, j, hj, e⟩ := hS
        have a := step_up hst h1.1 h2 j hj
        rw [e] at a
        show S ≤ 4722366482869645213696 * (1001 / 500) ^ (Ls.length + 1)
        rw [Rat.pow_succ]
        grind
      · intro x hx
        have e : (((w :: Ls).length : Nat) : Rat) = (Ls.length : Rat) + 1 := Rat.natCast_add Ls.length 1
        rw [e]
        exact hres x hx
