/-! ===== samples, 1000 added; scripts; hits of a plane ===== -/
def winL (T : Nat → Nat → Nat → Nat → T3) : List Nat → List T3
  | a :: b :: c :: d :: r => T a b c d :: winL T (b :: c :: d :: r)
  | _ => []
/-- the windows beside place 0, 1, 2, 3 -/
def T0 (a b c _ : Nat) : T3 := (c, b, a)
def T1 (a b _ d : Nat) : T3 := (d, b, a)
def T2 (a _ c d : Nat) : T3 := (d, c, a)
def T4 (_ b c d : Nat) : T3 := (d, c, b)
def nx (v : Nat) : Nat := Nat.mod (Nat.add (Nat.mul 7 v) 1001) 2001
def orbL (s : Nat) : Nat → List Nat
  | 0 => []
  | k + 1 => nx s :: orbL (nx s) k
theorem nx_le (v : Nat) : nx v ≤ 2000 := by
  have : (7 * v + 1001) % 2001 < 2001 := Nat.mod_lt _ (by decide)
  show (7 * v + 1001) % 2001 ≤ 2000
  omega
theorem orbL_len (s k : Nat) : (orbL s k).length = k := by
  induction k generalizing s with
  | zero => rfl
  | succ k ih => show (orbL (nx s) k).length + 1 = k + 1; rw [ih]
theorem orbL_le (s k : Nat) : ∀ n, n ∈ orbL s k → n ≤ 2000 := by
  induction k generalizing s with
  | zero => intro n hn; exact absurd hn List.not_mem_nil
  | succ k ih =>
    intro n hn
    rcases List.mem_cons.mp (show n ∈ nx s :: orbL (nx s) k from hn) with h | h
    · rw [h]; exact nx_le s
    · exact ih (nx s) n h
theorem orbL_add (s a b : Nat) : ∃ u, orbL s (a + b) = orbL s a ++ orbL u b := by
  induction a generalizing s with
  | zero => exact ⟨s, by rw [Nat.zero_add]; rfl⟩
  | succ a ih =>
    obtain ⟨u, h⟩ := ih (nx s)
    refine ⟨u, ?_⟩
    rw [show a + 1 + b = (a + b) + 1 by omega]
    show nx s :: orbL (nx s) (a + b) = nx s :: (orbL (nx s) a ++ orbL u b)
    rw [h]
def okT (T : Nat → Nat → Nat → Nat → T3) : Prop := ∀ a b c d, a ≤ 2000 → b ≤ 2000 → c ≤ 2000 → d ≤ 2000 → ok3 (T a b c d)
theorem okT0 : okT T0 := fun a b c d ha hb hc hd => ⟨hc, hb, ha⟩
theorem okT1 : okT T1 := fun a b c d ha hb hc hd => ⟨hd, hb, ha⟩
theorem okT2 : okT T2 := fun a b c d ha hb hc hd => ⟨hd, hc, ha⟩
theorem okT4 : okT T4 := fun a b c d ha hb hc hd => ⟨hd, hc, hb⟩
theorem winL_ok {T : Nat → Nat → Nat → Nat → T3} (hT : okT T) : ∀ (L : List Nat), (∀ n, n ∈ L → n ≤ 2000) → ∀ a, a ∈ winL T L → ok3 a := by
  intro L
  induction L with
  | nil => intro _ a h; exact absurd h List.not_mem_nil
  | cons n L ih =>
    intro hL a h
    match L, ih, hL, h with
    | [], _, _, h => exact absurd h List.not_mem_nil
    | [_], _, _, h => exact absurd h List.not_mem_nil
    | [_, _], _, _, h => exact absurd h List.not_mem_nil
    | b :: c :: d :: r, ih, hL, h =>
      rcases List.mem_cons.mp (show a ∈ T n b c d :: winL T (b :: c :: d :: r) from h) with h1 | h1
      · rw [h1]
        exact hT n b c d (hL n (by simp)) (hL b (by simp)) (hL c (by simp)) (hL d (by simp))
      · exact ih (fun m hm => hL m (List.mem_cons_of_mem _ hm)) a h1
theorem winL_len (T : Nat → Nat → Nat → Nat → T3) : ∀ (L : List Nat), (winL T L).length = L.length - 3 := by
  intro L
  induction L with
  | nil => rfl
  | cons n L ih =>
    match L, ih with
    | [], _ => rfl
    | [_], _ => rfl
    | [_, _], _ => rfl
    | b :: c :: d :: r, ih =>
      show (winL T (b :: c :: d :: r)).length + 1 = _
      rw [ih]
      simp only [List.length_cons]
      omega
/-- is the window of this sample in the plane -/
abbrev h1N (q : Z3) (T : Nat → Nat → Nat → Nat → T3) (xs : List Nat) (d : Nat) : Nat := if hq q (T (xs.getD 2 1000) (xs.getD 1 1000) (xs.getD 0 1000) d) = true then 1 else 0
def hcN (q : Z3) (T : Nat → Nat → Nat → Nat → T3) : List Nat → Nat
  | [] => 0
  | d :: xs => hcN q T xs + h1N q T xs d
def hcF (q : Z3) (T : Nat → Nat → Nat → Nat → T3) : List Nat → List Nat → Nat
  | _, [] => 0
  | xs, d :: L => h1N q T xs d + hcF q T (d :: xs) L
theorem hcN_app (q : Z3) (T : Nat → Nat → Nat → Nat → T3) : ∀ (L xs : List Nat), hcN q T (L.reverse ++ xs) = hcN q T xs + hcF q T xs L := by
  intro L
  induction L with
  | nil => intro xs; rfl
  | cons d L ih =>
    intro xs
    rw [List.reverse_cons, List.append_assoc]
    show hcN q T (L.reverse ++ (d :: xs)) = _
    rw [ih]
    show hcN q T xs + h1N q T xs d + hcF q T (d :: xs) L = hcN q T xs + (h1N q T xs d + hcF q T (d :: xs) L)
    omega
theorem hcF_le (q : Z3) (T : Nat → Nat → Nat → Nat → T3) : ∀ (L xs : List Nat), hcF q T xs L ≤ L.length := by
  intro L
  induction L with
  | nil => intro xs; exact Nat.le_refl _
  | cons d L ih =>
    intro xs
    have h := ih (d :: xs)
    show h1N q T xs d + hcF q T (d :: xs) L ≤ L.length + 1
    have : h1N q T xs d ≤ 1 := by unfold h1N; split <;> omega
    omega
theorem hcF_app (q : Z3) (T : Nat → Nat → Nat → Nat → T3) : ∀ (L R xs : List Nat), hcF q T xs L ≤ hcF q T xs (L ++ R) := by
  intro L
  induction L with
  | nil => intro R xs; exact Nat.zero_le _
  | cons d L ih =>
    intro R xs
    exact Nat.add_le_add_left (ih R (d :: xs)) _
theorem hcF_pure (q : Z3) (T : Nat → Nat → Nat → Nat → T3) : ∀ (r : List Nat) (a b c : Nat) (xs : List Nat), hcF q T (c :: b :: a :: xs) r = (winL T (a :: b :: c :: r)).countP (hq q) := by
  intro r
  induction r with
  | nil => intro a b c xs; rfl
  | cons d r ih =>
    intro a b c xs
    show h1N q T (c :: b :: a :: xs) d + hcF q T (d :: c :: b :: a :: xs) r = (T a b c d :: winL T (b :: c :: d :: r)).countP (hq q)
    rw [ih b c d (a :: xs), List.countP_cons]
    show (if hq q (T a b c d) = true then 1 else 0) + _ = _
    omega
def tf (b : Bool) : Nat := cond b 1 0
/-- what the first three samples of a script may add -/
def mixF (f : Nat → Nat → Bool) : List Nat → Nat
  | [] => 0
  | [_] => 1
  | [a, b] => 1 + tf (f a b)
  | a :: b :: c :: _ => 1 + tf (f a b) + tf (f b c)
/-- f says of two samples, one behind the other, whether some others before them bring them into the plane -/
def fOk (q : Z3) (T : Nat → Nat → Nat → Nat → T3) (f : Nat → Nat → Bool) : Prop := ∀ a b c d, a ≤ 2000 → b ≤ 2000 → c ≤ 2000 → d ≤ 2000 → hq q (T a b c d) = true → f c d = true
theorem getD_le {xs : List Nat} (h : ∀ n, n ∈ xs → n ≤ 2000) (k : Nat) : xs.getD k 1000 ≤ 2000 := by
  rw [List.getD_eq_getElem?_getD]
  cases e : xs[k]? with
  | none => show 1000 ≤ 2000; omega
  | some v => exact h v (List.mem_of_getElem? e)
theorem hcF_mix {q : Z3} {T : Nat → Nat → Nat → Nat → T3} {f : Nat → Nat → Bool} (hf : fOk q T f) {L xs : List Nat} (hL : ∀ n, n ∈ L → n ≤ 2000) (hx : ∀ n, n ∈ xs → n ≤ 2000) : hcF q T xs L ≤ mixF f L + (winL T L).countP (hq q) := by
  have one : ∀ ys d, h1N q T ys d ≤ 1 := fun ys d => by unfold h1N; split <;> omega
  have two : ∀ ys c d, (∀ n, n ∈ ys → n ≤ 2000) → c ≤ 2000 → d ≤ 2000 → h1N q T (c :: ys) d ≤ tf (f c d) := by
    intro ys c d hys hc hd
    unfold h1N
    split
    · rename_i h
      have h2 : hq q (T (ys.getD 1 1000) (ys.getD 0 1000) c d) = true := h
      rw [hf _ _ _ _ (getD_le hys 1) (getD_le hys 0) hc hd h2]
      exact Nat.le_refl _
    · exact Nat.zero_le _
  match L, hL with
  | [], _ => exact Nat.le_refl _
  | [a], _ =>
    have := one xs a
    show h1N q T xs a + 0 ≤ 1 + 0
    omega
  | [a, b], hL =>
    have h1 := one xs a
    have h2 := two xs a b hx (hL a (by simp)) (hL b (by simp))
    show h1N q T xs a + (h1N q T (a :: xs) b + 0) ≤ 1 + tf (f a b) + 0
    omega
  | a :: b :: c :: r, hL =>
    have h1 := one xs a
    have h2 := two xs a b hx (hL a (by simp)) (hL b (by simp))
    have h3 := two (a :: xs) b c (fun n hn => by
      rcases List.mem_cons.mp hn with e | e
      · rw [e]; exact hL a (by simp)
      · exact hx n e) (hL b (by simp)) (hL c (by simp))
    have h4 := hcF_pure q T r a b c xs
    show h1N q T xs a + (h1N q T (a :: xs) b + (h1N q T (b :: a :: xs) c + hcF q T (c :: b :: a :: xs) r)) ≤ 1 + tf (f a b) + tf (f b c) + _
    omega
