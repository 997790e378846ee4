/-! ===== planes through two windows near each other ===== -/
abbrev Z3 : Type := Int × Int × Int
def dz (q : Z3) (a : T3) : Int := q.1 * ((a.1 : Int) - 1000) + q.2.1 * ((a.2.1 : Int) - 1000) + q.2.2 * ((a.2.2 : Int) - 1000)
def hq (q : Z3) (a : T3) : Bool := decide (dz q a = 0)
def crz (q e : Z3) : Z3 := (q.2.1 * e.2.2 - q.2.2 * e.2.1, q.2.2 * e.1 - q.1 * e.2.2, q.1 * e.2.1 - q.2.1 * e.1)
def xz (a : T3) : Z3 := ((a.1 : Int) - 1000, (a.2.1 : Int) - 1000, (a.2.2 : Int) - 1000)
/-- parallel, neither 0: the same windows -/
theorem crz_dz {q e : Z3} (h : crz q e = (0, 0, 0)) (he : e ≠ (0, 0, 0)) (a : T3) (hd : dz e a = 0) (hq0 : q ≠ (0, 0, 0)) : dz q a = 0 := by
  obtain ⟨q0, q1, q2⟩ := q
  obtain ⟨e0, e1, e2⟩ := e
  unfold crz at h
  unfold dz at hd ⊢
  dsimp only at h hd ⊢
  have h1 : q1 * e2 - q2 * e1 = 0 := congrArg (fun z : Z3 => z.1) h
  have h2 : q2 * e0 - q0 * e2 = 0 := congrArg (fun z : Z3 => z.2.1) h
  have h3 : q0 * e1 - q1 * e0 = 0 := congrArg (fun z : Z3 => z.2.2) h
  generalize (a.1 : Int) - 1000 = x at hd ⊢
  generalize (a.2.1 : Int) - 1000 = y at hd ⊢
  generalize (a.2.2 : Int) - 1000 = z at hd ⊢
  have k : ∀ c : Int, c ≠ 0 → c * (q0 * x + q1 * y + q2 * z) = 0 → q0 * x + q1 * y + q2 * z = 0 := fun c hc h => (Int.mul_eq_zero.mp h).resolve_left hc
  by_cases c0 : e0 = 0
  · by_cases c1 : e1 = 0
    · by_cases c2 : e2 = 0
      · exact absurd (by rw [c0, c1, c2]) he
      · exact k e2 c2 (by grind)
    · exact k e1 c1 (by grind)
  · exact k e0 c0 (by grind)
theorem crz_swap {q e : Z3} (h : crz q e = (0, 0, 0)) : crz e q = (0, 0, 0) := by
  have h1 : q.2.1 * e.2.2 - q.2.2 * e.2.1 = 0 := congrArg (fun z : Z3 => z.1) h
  have h2 : q.2.2 * e.1 - q.1 * e.2.2 = 0 := congrArg (fun z : Z3 => z.2.1) h
  have h3 : q.1 * e.2.1 - q.2.1 * e.1 = 0 := congrArg (fun z : Z3 => z.2.2) h
  unfold crz
  refine Prod.ext ?_ (Prod.ext ?_ ?_) <;> dsimp only <;> grind
theorem crz_trans {q p e : Z3} (h1 : crz q p = (0, 0, 0)) (h2 : crz p e = (0, 0, 0)) (hp : p ≠ (0, 0, 0)) : crz q e = (0, 0, 0) := by
  obtain ⟨q0, q1, q2⟩ := q
  obtain ⟨p0, p1, p2⟩ := p
  obtain ⟨e0, e1, e2⟩ := e
  unfold crz at *
  dsimp only at *
  have a1 : q1 * p2 - q2 * p1 = 0 := congrArg (fun z : Z3 => z.1) h1
  have a2 : q2 * p0 - q0 * p2 = 0 := congrArg (fun z : Z3 => z.2.1) h1
  have a3 : q0 * p1 - q1 * p0 = 0 := congrArg (fun z : Z3 => z.2.2) h1
  have b1 : p1 * e2 - p2 * e1 = 0 := congrArg (fun z : Z3 => z.1) h2
  have b2 : p2 * e0 - p0 * e2 = 0 := congrArg (fun z : Z3 => z.2.1) h2
  have b3 : p0 * e1 - p1 * e0 = 0 := congrArg (fun z : Z3 => z.2.2) h2
  have k : ∀ c x : Int, c ≠ 0 → c * x = 0 → x = 0 := fun c x hc h => (Int.mul_eq_zero.mp h).resolve_left hc
  have key : ∀ c : Int, c ≠ 0 → c * (q1 * e2 - q2 * e1) = 0 → c * (q2 * e0 - q0 * e2) = 0 → c * (q0 * e1 - q1 * e0) = 0 → (q1 * e2 - q2 * e1, q2 * e0 - q0 * e2, q0 * e1 - q1 * e0) = ((0, 0, 0) : Z3) := by
    intro c hc x y z
    rw [k c _ hc x, k c _ hc y, k c _ hc z]
  by_cases c0 : p0 = 0
  · by_cases c1 : p1 = 0
    · by_cases c2 : p2 = 0
      · exact absurd (by rw [c0, c1, c2]) hp
      · exact key p2 c2 (by grind) (by grind) (by grind)
    · exact key p1 c1 (by grind) (by grind) (by grind)
  · exact key p0 c0 (by grind) (by grind) (by grind)
/-- orthogonal to two windows: parallel to their product -/
theorem crz_of {q : Z3} {a b : T3} (ha : dz q a = 0) (hb : dz q b = 0) : crz q (crz (xz a) (xz b)) = (0, 0, 0) := by
  obtain ⟨q0, q1, q2⟩ := q
  unfold dz at ha hb
  unfold crz xz
  dsimp only at *
  generalize (a.1 : Int) - 1000 = x at *
  generalize (a.2.1 : Int) - 1000 = y at *
  generalize (a.2.2 : Int) - 1000 = z at *
  generalize (b.1 : Int) - 1000 = u at *
  generalize (b.2.1 : Int) - 1000 = v at *
  generalize (b.2.2 : Int) - 1000 = w at *
  refine Prod.ext ?_ (Prod.ext ?_ ?_) <;> dsimp only <;> grind
theorem par_count {q e : Z3} (h : crz q e = (0, 0, 0)) (he : e ≠ (0, 0, 0)) (hq0 : q ≠ (0, 0, 0)) (l : List T3) : l.countP (hq q) = l.countP (hq e) := by
  refine List.countP_congr fun a _ => ?_
  unfold hq
  rw [decide_eq_true_eq, decide_eq_true_eq]
  exact ⟨fun z => crz_dz (crz_swap h) hq0 a z he, fun z => crz_dz h he a z hq0⟩
/-- no two hits within d: few hits -/
def sep (p : T3 → Bool) (d : Nat) (W : List T3) : Prop := ∀ pre a mid b post, W = pre ++ a :: (mid ++ b :: post) → mid.length < d → ¬ (p a = true ∧ p b = true)
theorem sep_tail {p : T3 → Bool} {d : Nat} {pre W : List T3} (h : sep p d (pre ++ W)) : sep p d W := by
  intro p1 a mid b post e hm
  exact h (pre ++ p1) a mid b post (by rw [e, List.append_assoc]) hm
theorem sep_count (p : T3 → Bool) (d : Nat) : ∀ (N : Nat) (W : List T3), W.length ≤ N → sep p d W → W.countP p = 0 ∨ (W.countP p - 1) * (d + 1) + 1 ≤ W.length := by
  intro N
  induction N with
  | zero =>
    intro W hl _
    left
    have hW : W = [] := List.length_eq_zero_iff.mp (by omega)
    rw [hW]
    rfl
  | succ N ih =>
    intro W hl hs
    cases W with
    | nil => left; rfl
    | cons a l =>
      have hsl : sep p d l := sep_tail (pre := [a]) hs
      rw [List.length_cons] at hl ⊢
      rw [List.countP_cons]
      by_cases ha : p a = true
      · have h0 : (l.take d).countP p = 0 := by
          rw [List.countP_eq_zero]
          intro b hb hpb
          obtain ⟨mid, post, e⟩ := List.append_of_mem hb
          have hlen : mid.length < d := by
            have h1 : (l.take d).length ≤ d := List.length_take_le d l
            rw [e] at h1
            simp at h1
            omega
          refine hs [] a mid b (post ++ l.drop d) ?_ hlen ⟨ha, hpb⟩
          have e2 : l = mid ++ b :: post ++ l.drop d := by rw [← e]; exact (List.take_append_drop d l).symm
          show a :: l = a :: (mid ++ b :: (post ++ l.drop d))
          rw [show mid ++ b :: (post ++ l.drop d) = mid ++ b :: post ++ l.drop d by simp, ← e2]
        have h1 : l.countP p = (l.drop d).countP p := by
          have e3 : l.countP p = (l.take d ++ l.drop d).countP p := by rw [List.take_append_drop]
          rw [e3, List.countP_append, h0, Nat.zero_add]
        have h2 := ih (l.drop d) (by rw [List.length_drop]; omega) (sep_tail (pre := l.take d) (by rw [List.take_append_drop]; exact hsl))
        rw [if_pos ha, h1]
        right
        rcases h2 with h2 | h2
        · rw [h2]; simp
        · have h3 : 0 < (l.drop d).length := by omega
          rw [List.length_drop] at h2 h3
          by_cases hz : (l.drop d).countP p = 0
          · rw [hz]; simp
          · generalize (l.drop d).countP p = c at h2 hz ⊢
            obtain ⟨k, rfl⟩ : ∃ k, c = k + 1 := ⟨c - 1, by omega⟩
            rw [show k + 1 - 1 = k by omega] at h2
            rw [show k + 1 + 1 - 1 = k + 1 by omega, Nat.add_mul]
            omega
      · rw [if_neg ha, Nat.add_zero]
        rcases ih l (by omega) hsl with h2 | h2
        · left; exact h2
        · right; omega
