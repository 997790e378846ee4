/-! ===== a check over all pairs of windows near each other, and what it says ===== -/
def fz (n : Nat) (k : Nat → Bool) : Bool := match n with
  | 0 => k 0
  | m + 1 => k (m + 1)
theorem fz_eq (n : Nat) (k : Nat → Bool) : fz n k = k n := by cases n <;> rfl
def cc (n1 n2 m1 m2 : Nat) : Nat := Nat.sub (Nat.add (Nat.add 8388608 (Nat.mul n1 m2)) (Nat.mul 1000 (Nat.add n2 m1))) (Nat.add (Nat.mul n2 m1) (Nat.mul 1000 (Nat.add n1 m2)))
def inD (Dl : List Z3) (c0 c1 c2 : Nat) : Bool := (!(Nat.beq c0 8388608 && Nat.beq c1 8388608 && Nat.beq c2 8388608)) && Dl.any (fun e => decide (crz ((c0 : Int) - 8388608, (c1 : Int) - 8388608, (c2 : Int) - 8388608) e = (0, 0, 0)))
def chkP (H G0 G1 G2 GS ON OO MS : Nat) (Dl : List Z3) (a b : T3) : Bool :=
  fz (cc a.2.1 a.2.2 b.2.1 b.2.2) fun c0 => fz (cc a.2.2 a.1 b.2.2 b.1) fun c1 => fz (cc a.1 a.2.1 b.1 b.2.1) fun c2 =>
  fz (Nat.sub (Nat.add (Nat.add (Nat.mul c0 G0) (Nat.mul c1 G1)) (Nat.add (Nat.mul c2 G2) OO)) (Nat.add GS (Nat.mul (Nat.mul 1000 (Nat.add c0 (Nat.add c1 c2))) ON))) fun Y =>
  or (Nat.ble (Nat.mod (Nat.land Y MS) 281474976710655) (Nat.add (Nat.mod (Nat.land (Nat.sub Y ON) MS) 281474976710655) (Nat.mul 17179869184 H))) (inD Dl c0 c1 c2)
def chkRow (f : T3 → Bool) : Nat → List T3 → Bool
  | 0, _ => true
  | _ + 1, [] => true
  | n + 1, b :: l => and (f b) (chkRow f n l)
def chkAll (f : T3 → T3 → Bool) (d : Nat) : List T3 → Bool
  | [] => true
  | a :: l => and (chkRow (f a) d l) (chkAll f d l)
def chkW (H d : Nat) (Dl : List Z3) (W : List T3) : Bool :=
  fz (pkf (fun a => a.1) W) fun G0 => fz (pkf (fun a => a.2.1) W) fun G1 => fz (pkf (fun a => a.2.2) W) fun G2 => fz (pkf (fun _ => 1) W) fun ON =>
  fz (Nat.mul 8388608 (Nat.add G0 (Nat.add G1 G2))) fun GS => fz (Nat.mul 42345693184 ON) fun OO => fz (Nat.mul 17179869184 ON) fun MS =>
  chkAll (chkP H G0 G1 G2 GS ON OO MS Dl) d W
theorem chkRow_at {f : T3 → Bool} : ∀ {n : Nat} {mid : List T3} {b : T3} {post : List T3}, chkRow f n (mid ++ b :: post) = true → mid.length < n → f b = true := by
  intro n
  induction n with
  | zero => intro mid b post _ h; omega
  | succ n ih =>
    intro mid b post h hm
    cases mid with
    | nil =>
      have h1 : (f b && chkRow f n post) = true := h
      rw [Bool.and_eq_true] at h1
      exact h1.1
    | cons c mid =>
      have h1 : (f c && chkRow f n (mid ++ b :: post)) = true := h
      rw [Bool.and_eq_true] at h1
      rw [List.length_cons] at hm
      exact ih h1.2 (by omega)
theorem chkAll_at {f : T3 → T3 → Bool} {d : Nat} : ∀ {pre : List T3} {a : T3} {mid : List T3} {b : T3} {post : List T3}, chkAll f d (pre ++ a :: (mid ++ b :: post)) = true → mid.length < d → f a b = true := by
  intro pre
  induction pre with
  | nil =>
    intro a mid b post h hm
    have h1 : (chkRow (f a) d (mid ++ b :: post) && chkAll f d (mid ++ b :: post)) = true := h
    rw [Bool.and_eq_true] at h1
    exact chkRow_at h1.1 hm
  | cons c pre ih =>
    intro a mid b post h hm
    have h1 : (chkRow (f c) d (pre ++ a :: (mid ++ b :: post)) && chkAll f d (pre ++ a :: (mid ++ b :: post))) = true := h
    rw [Bool.and_eq_true] at h1
    exact ih h1.2 hm
theorem cc_val {n1 n2 m1 m2 : Nat} (h1 : n1 ≤ 2000) (h2 : n2 ≤ 2000) (h3 : m1 ≤ 2000) (h4 : m2 ≤ 2000) : ((cc n1 n2 m1 m2 : Nat) : Int) = 8388608 + (((n1 : Int) - 1000) * ((m2 : Int) - 1000) - ((n2 : Int) - 1000) * ((m1 : Int) - 1000)) ∧ cc n1 n2 m1 m2 ≤ 12400000 ∧ 4300000 ≤ cc n1 n2 m1 m2 := by
  have e : cc n1 n2 m1 m2 = 8388608 + n1 * m2 + 1000 * (n2 + m1) - (n2 * m1 + 1000 * (n1 + m2)) := rfl
  have f1 : ((n1 * m2 : Nat) : Int) = ((n1 : Int) - 1000) * ((m2 : Int) - 1000) + 1000 * n1 + 1000 * m2 - 1000000 := by rw [Int.natCast_mul]; grind
  have f2 : ((n2 * m1 : Nat) : Int) = ((n2 : Int) - 1000) * ((m1 : Int) - 1000) + 1000 * n2 + 1000 * m1 - 1000000 := by rw [Int.natCast_mul]; grind
  have k1 : ((n1 : Int) - 1000) * ((m2 : Int) - 1000) ≤ 1000000 ∧ -1000000 ≤ ((n1 : Int) - 1000) * ((m2 : Int) - 1000) := by
    have := Int.natAbs_mul ((n1 : Int) - 1000) ((m2 : Int) - 1000)
    have u1 : ((n1 : Int) - 1000).natAbs ≤ 1000 := by omega
    have u2 : ((m2 : Int) - 1000).natAbs ≤ 1000 := by omega
    have u3 := Nat.mul_le_mul u1 u2
    omega
  have k2 : ((n2 : Int) - 1000) * ((m1 : Int) - 1000) ≤ 1000000 ∧ -1000000 ≤ ((n2 : Int) - 1000) * ((m1 : Int) - 1000) := by
    have := Int.natAbs_mul ((n2 : Int) - 1000) ((m1 : Int) - 1000)
    have u1 : ((n2 : Int) - 1000).natAbs ≤ 1000 := by omega
    have u2 : ((m1 : Int) - 1000).natAbs ≤ 1000 := by omega
    have u3 := Nat.mul_le_mul u1 u2
    omega
  rw [e]
  generalize ((n1 : Int) - 1000) * ((m2 : Int) - 1000) = A at *
  generalize ((n2 : Int) - 1000) * ((m1 : Int) - 1000) = B at *
  generalize n1 * m2 = x at *
  generalize n2 * m1 = y at *
  omega
def yF (c0 c1 c2 : Nat) (a : T3) : Nat := (c0 * a.1 + c1 * a.2.1 + c2 * a.2.2 + 42345693184) - (8388608 * (a.1 + a.2.1 + a.2.2) + 1000 * (c0 + c1 + c2))
abbrev ok3 (a : T3) : Prop := a.1 ≤ 2000 ∧ a.2.1 ≤ 2000 ∧ a.2.2 ≤ 2000
abbrev ofc (c0 c1 c2 : Nat) : Z3 := ((c0 : Int) - 8388608, (c1 : Int) - 8388608, (c2 : Int) - 8388608)
abbrev okc (c : Nat) : Prop := c ≤ 12400000 ∧ 4300000 ≤ c
theorem yF_val {c0 c1 c2 : Nat} {a : T3} (h0 : okc c0) (h1 : okc c1) (h2 : okc c2) (ha : ok3 a) :
    8388608 * (a.1 + a.2.1 + a.2.2) + 1000 * (c0 + c1 + c2) ≤ c0 * a.1 + c1 * a.2.1 + c2 * a.2.2 + 42345693184 ∧ ((yF c0 c1 c2 a : Nat) : Int) = 17179869184 + dz (ofc c0 c1 c2) a ∧ 1 ≤ yF c0 c1 c2 a ∧ yF c0 c1 c2 a < 34359738368 := by
  have key : ∀ c n : Nat, okc c → n ≤ 2000 → ((c * n : Nat) : Int) = ((c : Int) - 8388608) * ((n : Int) - 1000) + 8388608 * n + 1000 * c - 8388608000 ∧ ((c : Int) - 8388608) * ((n : Int) - 1000) ≤ 4100000000 ∧ -4100000000 ≤ ((c : Int) - 8388608) * ((n : Int) - 1000) := by
    intro c n hc hn
    refine ⟨by rw [Int.natCast_mul]; grind, ?_⟩
    have := Int.natAbs_mul ((c : Int) - 8388608) ((n : Int) - 1000)
    have u1 : ((c : Int) - 8388608).natAbs ≤ 4100000 := by have := hc.1; have := hc.2; omega
    have u2 : ((n : Int) - 1000).natAbs ≤ 1000 := by omega
    have u3 := Nat.mul_le_mul u1 u2
    omega
  obtain ⟨a1, b1, d1⟩ := key c0 a.1 h0 ha.1
  obtain ⟨a2, b2, d2⟩ := key c1 a.2.1 h1 ha.2.1
  obtain ⟨a3, b3, d3⟩ := key c2 a.2.2 h2 ha.2.2
  unfold yF dz ofc
  dsimp only
  generalize ((c0 : Int) - 8388608) * ((a.1 : Int) - 1000) = A at *
  generalize ((c1 : Int) - 8388608) * ((a.2.1 : Int) - 1000) = B at *
  generalize ((c2 : Int) - 8388608) * ((a.2.2 : Int) - 1000) = C at *
  generalize c0 * a.1 = x at *
  generalize c1 * a.2.1 = y at *
  generalize c2 * a.2.2 = z at *
  omega
