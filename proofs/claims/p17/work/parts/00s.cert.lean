/-! ===== certificates: what an act adds, against its samples ===== -/
def yN (c0 c1 c2 : Nat) (a : T3) : Nat := Nat.sub (Nat.add (Nat.add (Nat.add (Nat.mul c0 a.1) (Nat.mul c1 a.2.1)) (Nat.mul c2 a.2.2)) 42345693184) (Nat.add (Nat.mul 8388608 (Nat.add (Nat.add a.1 a.2.1) a.2.2)) (Nat.mul 1000 (Nat.add (Nat.add c0 c1) c2)))
def cntY (c0 c1 c2 : Nat) : List T3 → Nat
  | [] => 0
  | a :: l => cond (Nat.beq (yN c0 c1 c2 a) 17179869184) (Nat.succ (cntY c0 c1 c2 l)) (cntY c0 c1 c2 l)
theorem cntY_eq {c0 c1 c2 : Nat} (h0 : okc c0) (h1 : okc c1) (h2 : okc c2) {l : List T3} (hl : ∀ a, a ∈ l → ok3 a) : cntY c0 c1 c2 l = l.countP (hq (ofc c0 c1 c2)) := by
  induction l with
  | nil => rfl
  | cons a l ih =>
    have h3 := (yF_val h0 h1 h2 (hl a List.mem_cons_self)).2.1
    have h4 := ih (fun b hb => hl b (List.mem_cons_of_mem _ hb))
    rw [List.countP_cons, ← h4]
    show cond (Nat.beq (yF c0 c1 c2 a) 17179869184) (cntY c0 c1 c2 l + 1) (cntY c0 c1 c2 l) = _
    unfold hq
    by_cases e : yF c0 c1 c2 a = 17179869184
    · rw [e, if_pos (by rw [decide_eq_true_eq]; omega)]
      rfl
    · rw [if_neg (by rw [decide_eq_true_eq]; omega)]
      have : Nat.beq (yF c0 c1 c2 a) 17179869184 = false := by
        rw [Bool.eq_false_iff]
        intro z
        exact e (Nat.eq_of_beq_eq_true z)
      rw [this]
      rfl
def totY (f : Nat → Nat → Bool) (T : Nat → Nat → Nat → Nat → T3) (c0 c1 c2 : Nat) (L : List Nat) : Nat := Nat.add (mixF f L) (cntY c0 c1 c2 (winL T L))
def chk8 (f : Nat → Nat → Bool) (T : Nat → Nat → Nat → Nat → T3) (c0 c1 c2 A : Nat) : Bool := (List.range 2001).all (fun s => Nat.ble (totY f T c0 c1 c2 (orbL s 8)) A)
def chkm (f : Nat → Nat → Bool) (T : Nat → Nat → Nat → Nat → T3) (c0 c1 c2 be ga : Nat) : Bool := (List.range 101).all (fun m => Nat.ble (Nat.mul 1000 (totY f T c0 c1 c2 (orbL m m))) (Nat.add (Nat.mul be m) ga))
abbrev tot (f : Nat → Nat → Bool) (T : Nat → Nat → Nat → Nat → T3) (q : Z3) (L : List Nat) : Nat := mixF f L + (winL T L).countP (hq q)
def Cert (T : Nat → Nat → Nat → Nat → T3) (q : Z3) : Prop := ∃ (A be ga : Nat) (f : Nat → Nat → Bool), fOk q T f ∧ (∀ s, s ≤ 2000 → tot f T q (orbL s 8) ≤ A) ∧ (∀ m, m ≤ 100 → 1000 * tot f T q (orbL m m) ≤ be * m + ga) ∧ 1000 * A ≤ be * A + ga ∧ be ≤ 1000 ∧ 1000 ≤ be + ga ∧ 2000 * be + 100 * ga ≤ 906999
def fT (_ _ : Nat) : Bool := true
theorem fT_ok (q : Z3) (T : Nat → Nat → Nat → Nat → T3) : fOk q T fT := fun _ _ _ _ _ _ _ _ _ => rfl
def f5 (a b : Nat) : Bool := and (Nat.ble (Nat.mul 3 a) (Nat.mul 5 b)) (and (Nat.ble (Nat.mul 5 b) (Nat.add (Nat.mul 3 a) 4000)) (Nat.beq (Nat.mod (Nat.add a b) 2) 0))
theorem f5_ok : fOk (5, -3, -2) T2 f5 := by
  intro a b c d ha hb hc hd h
  have h1 : dz (5, -3, -2) (T2 a b c d) = 0 := of_decide_eq_true h
  unfold dz T2 at h1
  dsimp only at h1
  unfold f5
  rw [Bool.and_eq_true, Bool.and_eq_true]
  refine ⟨Nat.ble_eq.mpr (show 3 * c ≤ 5 * d by omega), Nat.ble_eq.mpr (show 5 * d ≤ 3 * c + 4000 by omega), Nat.beq_eq.mpr (show (c + d) % 2 = 0 by omega)⟩
theorem cert_of {T : Nat → Nat → Nat → Nat → T3} (hT : okT T) {q : Z3} {c0 c1 c2 A be ga : Nat} {f : Nat → Nat → Bool} (hq0 : q = ofc c0 c1 c2) (h0 : okc c0) (h1 : okc c1) (h2 : okc c2) (hf : fOk q T f)
    (h8 : chk8 f T c0 c1 c2 A = true) (hm : chkm f T c0 c1 c2 be ga = true) (hA : 1000 * A ≤ be * A + ga) (hb : be ≤ 1000) (hs : 1000 ≤ be + ga) (ht : 2000 * be + 100 * ga ≤ 906999) : Cert T q := by
  subst hq0
  have e : ∀ s k, totY f T c0 c1 c2 (orbL s k) = tot f T (ofc c0 c1 c2) (orbL s k) := by
    intro s k
    show mixF f (orbL s k) + cntY c0 c1 c2 (winL T (orbL s k)) = _
    rw [cntY_eq h0 h1 h2 (winL_ok hT _ (orbL_le s k))]
  refine ⟨A, be, ga, f, hf, fun s hs => ?_, fun m hm2 => ?_, hA, hb, hs, ht⟩
  · unfold chk8 at h8
    rw [List.all_eq_true] at h8
    have := Nat.le_of_ble_eq_true (h8 s (List.mem_range.mpr (by omega)))
    rw [e] at this
    exact this
  · unfold chkm at hm
    rw [List.all_eq_true] at hm
    have := Nat.le_of_ble_eq_true (hm m (List.mem_range.mpr (by omega)))
    rw [e] at this
    exact this
