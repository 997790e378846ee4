/-! ===== at most 906 windows of 100 acts lie in one plane beside a place ===== -/
def VA (A : List Nat) : Prop := (∃ n, n ≤ 2000 ∧ A = [n]) ∨ (∃ s k, s ≤ 2000 ∧ 1 ≤ k ∧ k ≤ 8 ∧ A = orbL s k) ∨ (∃ m, 1 ≤ m ∧ m ≤ 100 ∧ A = orbL m m)
def xsOf : List (List Nat) → List Nat
  | [] => []
  | A :: as => A.reverse ++ xsOf as
theorem VA_le {A : List Nat} (h : VA A) : ∀ n, n ∈ A → n ≤ 2000 := by
  intro n hn
  rcases h with ⟨m, h1, rfl⟩ | ⟨s, k, _, _, _, rfl⟩ | ⟨m, _, _, rfl⟩
  · rw [List.mem_singleton.mp hn]; exact h1
  · exact orbL_le s k n hn
  · exact orbL_le m m n hn
theorem xsOf_le {as : List (List Nat)} (h : ∀ A, A ∈ as → VA A) : ∀ n, n ∈ xsOf as → n ≤ 2000 := by
  induction as with
  | nil => intro n hn; exact absurd hn List.not_mem_nil
  | cons A as ih =>
    intro n hn
    rcases List.mem_append.mp (show n ∈ A.reverse ++ xsOf as from hn) with h1 | h1
    · exact VA_le (h A List.mem_cons_self) n (List.mem_reverse.mp h1)
    · exact ih (fun B hB => h B (List.mem_cons_of_mem _ hB)) n h1
theorem act_le {T : Nat → Nat → Nat → Nat → T3} {e : Z3} {A8 be ga : Nat} {f : Nat → Nat → Bool} (hf : fOk e T f) (h8 : ∀ s, s ≤ 2000 → tot f T e (orbL s 8) ≤ A8) (hm : ∀ m, m ≤ 100 → 1000 * tot f T e (orbL m m) ≤ be * m + ga) (hA : 1000 * A8 ≤ be * A8 + ga) (hb : be ≤ 1000) (h1 : 1000 ≤ be + ga)
    {A xs : List Nat} (hV : VA A) (hx : ∀ n, n ∈ xs → n ≤ 2000) : 1000 * hcF e T xs A ≤ be * A.length + ga := by
  rcases hV with ⟨n, hn, rfl⟩ | ⟨s, k, hs, hk1, hk8, rfl⟩ | ⟨m, hm1, hm2, rfl⟩
  · have := hcF_le e T [n] xs
    have e1 : ([n] : List Nat).length = 1 := rfl
    rw [e1] at this ⊢
    omega
  · have k1 := hcF_le e T (orbL s k) xs
    rw [orbL_len] at k1 ⊢
    obtain ⟨u, hu⟩ := orbL_add s k (8 - k)
    rw [show k + (8 - k) = 8 by omega] at hu
    have k2 := hcF_app e T (orbL s k) (orbL u (8 - k)) xs
    rw [← hu] at k2
    have k3 := hcF_mix hf (orbL_le s 8) hx
    have k4 := h8 s hs
    have k5 : hcF e T xs (orbL s k) ≤ A8 := Nat.le_trans k2 (Nat.le_trans k3 k4)
    generalize hcF e T xs (orbL s k) = h at *
    obtain ⟨g, hg⟩ : ∃ g, 1000 = be + g := ⟨1000 - be, by omega⟩
    have y1 : 1000 * A8 = be * A8 + g * A8 := (congrArg (fun z => z * A8) hg).trans (Nat.add_mul ..)
    have y2 : 1000 * h = be * h + g * h := (congrArg (fun z => z * h) hg).trans (Nat.add_mul ..)
    have z1 := Nat.mul_le_mul_left g k5
    have z2 := Nat.mul_le_mul_left be k1
    omega
  · have k3 := hcF_mix hf (orbL_le m m) hx
    have k4 := hm m hm2
    rw [orbL_len]
    have k5 := Nat.mul_le_mul_left 1000 k3
    exact Nat.le_trans k5 k4
theorem acts_le {T : Nat → Nat → Nat → Nat → T3} {e : Z3} (hC : Cert T e) {as : List (List Nat)} (hV : ∀ A, A ∈ as → VA A) (hn : as.length ≤ 100) (hl : (xsOf as).length ≤ 2000) : hcN e T (xsOf as) ≤ 906 := by
  obtain ⟨A8, be, ga, f, hf, h8, hm, hA, hb, h1, ht⟩ := hC
  have key : ∀ as : List (List Nat), (∀ A, A ∈ as → VA A) → 1000 * hcN e T (xsOf as) ≤ be * (xsOf as).length + ga * as.length := by
    intro as
    induction as with
    | nil => intro _; exact Nat.zero_le _
    | cons A as ih =>
      intro hV
      have i1 := ih (fun B hB => hV B (List.mem_cons_of_mem _ hB))
      have i2 := act_le hf h8 hm hA hb h1 (hV A List.mem_cons_self) (xsOf_le (fun B hB => hV B (List.mem_cons_of_mem _ hB)))
      show 1000 * hcN e T (A.reverse ++ xsOf as) ≤ be * (A.reverse ++ xsOf as).length + ga * (as.length + 1)
      rw [hcN_app, List.length_append, List.length_reverse, Nat.mul_add, Nat.mul_add, Nat.mul_add]
      omega
  have k := key as hV
  have z1 := Nat.mul_le_mul_left be hl
  have z2 := Nat.mul_le_mul_left ga hn
  omega
/-- the windows of a list of samples, 1000 taken off -/
def Hist : List Nat → List (Nat → Int32) → Prop
  | [], [] => True
  | d :: xs, w :: ws => (∀ k, k < 4 → (w k).toInt = (((d :: xs).getD k 1000 : Nat) : Int) - 1000) ∧ Hist xs ws
  | [], _ :: _ => False
  | _ :: _, [] => False
def vz (i : Nat) (w : Nat → Int32) : Z3 := (wi w (offI i).1, wi w (offI i).2.1, wi w (offI i).2.2)
def dv (q v : Z3) : Int := q.1 * v.1 + q.2.1 * v.2.1 + q.2.2 * v.2.2
def TI (i : Nat) : Nat → Nat → Nat → Nat → T3 := if i = 0 then T0 else if i = 1 then T1 else if i = 2 then T2 else T4
theorem hist_count (q : Z3) {i : Nat} (hi : i < 4) : ∀ (xs : List Nat) (ws : List (Nat → Int32)), Hist xs ws → ws.countP (fun w => decide (dv q (vz i w) = 0)) = hcN q (TI i) xs := by
  intro xs
  induction xs with
  | nil =>
    intro ws h
    cases ws with
    | nil => rfl
    | cons w ws => exact h.elim
  | cons d xs ih =>
    intro ws h
    cases ws with
    | nil => exact h.elim
    | cons w ws =>
      obtain ⟨h1, h2⟩ := h
      rw [List.countP_cons, ih ws h2]
      show _ = hcN q (TI i) xs + h1N q (TI i) xs d
      have e0 : (w 0).toInt = (d : Int) - 1000 := h1 0 (by omega)
      have e1 : (w 1).toInt = ((xs.getD 0 1000 : Nat) : Int) - 1000 := h1 1 (by omega)
      have e2 : (w 2).toInt = ((xs.getD 1 1000 : Nat) : Int) - 1000 := h1 2 (by omega)
      have e3 : (w 3).toInt = ((xs.getD 2 1000 : Nat) : Int) - 1000 := h1 3 (by omega)
      have e : dv q (vz i w) = dz q (TI i (xs.getD 2 1000) (xs.getD 1 1000) (xs.getD 0 1000) d) := by
        unfold dv vz dz TI
        rcases (show i = 0 ∨ i = 1 ∨ i = 2 ∨ i = 3 by omega) with h | h | h | h <;> subst h <;> simp [offI, T0, T1, T2, T4, e0, e1, e2, e3]
      unfold h1N hq
      rw [e]
theorem plane_ex {i : Nat} {Ls : List (Nat → Int32)} (h : ∀ a b c, a ∈ Ls → b ∈ Ls → c ∈ Ls → detI i a b c = 0) : ∃ q : Z3, q ≠ (0, 0, 0) ∧ ∀ w, w ∈ Ls → dv q (vz i w) = 0 := by
  by_cases h1 : ∃ a b, a ∈ Ls ∧ b ∈ Ls ∧ crz (vz i a) (vz i b) ≠ (0, 0, 0)
  · obtain ⟨a, b, ha, hb, hn⟩ := h1
    refine ⟨_, hn, fun w hw => ?_⟩
    have := h a b w ha hb hw
    unfold detI det3 at this
    unfold dv crz vz
    dsimp only
    grind
  · have h2 : ∀ a b, a ∈ Ls → b ∈ Ls → crz (vz i a) (vz i b) = (0, 0, 0) := fun a b ha hb => Classical.byContradiction fun hn => h1 ⟨a, b, ha, hb, hn⟩
    have hone : ((1, 0, 0) : Z3) ≠ (0, 0, 0) := by decide
    by_cases h3 : ∃ a, a ∈ Ls ∧ vz i a ≠ (0, 0, 0)
    · obtain ⟨a, ha, hn⟩ := h3
      have h4 := fun w hw => h2 a w ha hw
      generalize vz i a = v at hn h4
      obtain ⟨x, y, z⟩ := v
      by_cases hx : x = 0 ∧ y = 0
      · obtain ⟨rfl, rfl⟩ := hx
        have hz : z ≠ 0 := fun e => hn (by rw [e])
        refine ⟨(1, 0, 0), hone, fun w hw => ?_⟩
        have h5 := h4 w hw
        unfold crz at h5
        dsimp only at h5
        have h6 : z * (vz i w).1 - 0 * (vz i w).2.2 = 0 := congrArg (fun z : Z3 => z.2.1) h5
        have h7 : (vz i w).1 = 0 := (Int.mul_eq_zero.mp (by grind : z * (vz i w).1 = 0)).resolve_left hz
        unfold dv
        dsimp only
        grind
      · refine ⟨(y, -x, 0), fun e => hx ⟨?_, ?_⟩, fun w hw => ?_⟩
        · have : -x = 0 := congrArg (fun z : Z3 => z.2.1) e
          omega
        · exact congrArg (fun z : Z3 => z.1) e
        · have h5 := h4 w hw
          unfold crz at h5
          dsimp only at h5
          have h6 : x * (vz i w).2.1 - y * (vz i w).1 = 0 := congrArg (fun z : Z3 => z.2.2) h5
          unfold dv
          dsimp only
          grind
    · refine ⟨(1, 0, 0), hone, fun w hw => ?_⟩
      have : vz i w = (0, 0, 0) := Classical.byContradiction fun hn => h3 ⟨w, hw, hn⟩
      rw [this]
      decide
theorem hist_HB {as : List (List Nat)} {ws : List (Nat → Int32)} (hV : ∀ A, A ∈ as → VA A) (hn : as.length ≤ 100) (hl : (xsOf as).length ≤ 2000) (hH : Hist (xsOf as) ws) : HB ws := by
  intro i hi Ls hs hd
  obtain ⟨q, hq0, hq1⟩ := plane_ex hd
  have h1 : Ls.countP (fun w => decide (dv q (vz i w) = 0)) = Ls.length := by
    rw [List.countP_eq_length]
    intro w hw
    rw [decide_eq_true_eq]
    exact hq1 w hw
  have h2 := hs.countP_le (p := fun w => decide (dv q (vz i w) = 0))
  rw [h1, hist_count q hi _ _ hH] at h2
  have h3 : ∃ e, Cert (TI i) e ∧ ∀ a, hq q a = hq e a := by
    unfold TI
    rcases (show i = 0 ∨ i = 1 ∨ i = 2 ∨ i = 3 by omega) with h | h | h | h <;> subst h
    · exact cert_all okT0 D0_ok chk_0 hq0
    · exact cert_all okT1 D1_ok chk_1 hq0
    · exact cert_all okT2 D2_ok chk_2 hq0
    · exact cert_all okT4 D4_ok chk_4 hq0
  obtain ⟨e, hC, he⟩ := h3
  have h4 : ∀ xs, hcN q (TI i) xs = hcN e (TI i) xs := by
    intro xs
    induction xs with
    | nil => rfl
    | cons d xs ih =>
      show hcN q (TI i) xs + h1N q (TI i) xs d = hcN e (TI i) xs + h1N e (TI i) xs d
      rw [ih]
      unfold h1N
      rw [he]
  rw [h4] at h2
  exact Nat.le_trans h2 (acts_le hC hV hn hl)
