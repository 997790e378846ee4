/-! ===== counting many windows in one number ===== -/
abbrev T3 : Type := Nat × Nat × Nat
/-- slots of 48 digits -/
def pkf (f : T3 → Nat) : List T3 → Nat
  | [] => 0
  | a :: l => f a + 281474976710656 * pkf f l
theorem pkf_add (f g : T3 → Nat) (l : List T3) : pkf f l + pkf g l = pkf (fun a => f a + g a) l := by
  induction l with
  | nil => rfl
  | cons a l ih =>
    show f a + 281474976710656 * pkf f l + (g a + 281474976710656 * pkf g l) = f a + g a + 281474976710656 * pkf (fun a => f a + g a) l
    rw [← ih]
    omega
theorem pkf_mul (c : Nat) (f : T3 → Nat) (l : List T3) : c * pkf f l = pkf (fun a => c * f a) l := by
  induction l with
  | nil => rfl
  | cons a l ih =>
    show c * (f a + 281474976710656 * pkf f l) = c * f a + 281474976710656 * pkf (fun a => c * f a) l
    rw [← ih, Nat.mul_add, Nat.mul_left_comm]
theorem pkf_congr {f g : T3 → Nat} {l : List T3} (h : ∀ a, a ∈ l → f a = g a) : pkf f l = pkf g l := by
  induction l with
  | nil => rfl
  | cons a l ih =>
    show f a + 281474976710656 * pkf f l = g a + 281474976710656 * pkf g l
    rw [h a List.mem_cons_self, ih (fun b hb => h b (List.mem_cons_of_mem _ hb))]
theorem pkf_sub {f g : T3 → Nat} {l : List T3} (h : ∀ a, a ∈ l → g a ≤ f a) : pkf f l - pkf g l = pkf (fun a => f a - g a) l := by
  have e : pkf f l = pkf (fun a => f a - g a) l + pkf g l := by
    rw [pkf_add]
    exact pkf_congr fun a ha => (Nat.sub_add_cancel (h a ha)).symm
  omega
theorem pkf_land {f : T3 → Nat} {l : List T3} (h : ∀ a, a ∈ l → f a < 281474976710656) : pkf f l &&& pkf (fun _ => 17179869184) l = pkf (fun a => f a &&& 17179869184) l := by
  induction l with
  | nil => exact Nat.zero_and 0
  | cons a l ih =>
    have h0 := h a List.mem_cons_self
    have h1 := ih (fun b hb => h b (List.mem_cons_of_mem _ hb))
    show (f a + 281474976710656 * pkf f l) &&& (17179869184 + 281474976710656 * pkf (fun _ => 17179869184) l) = (f a &&& 17179869184) + 281474976710656 * pkf (fun a => f a &&& 17179869184) l
    rw [← h1]
    generalize pkf f l = u
    generalize pkf (fun _ => 17179869184) l = v
    have e1 := Nat.and_mod_two_pow (a := f a + 281474976710656 * u) (b := 17179869184 + 281474976710656 * v) (n := 48)
    have e2 := Nat.and_div_two_pow (a := f a + 281474976710656 * u) (b := 17179869184 + 281474976710656 * v) (n := 48)
    rw [show (2 : Nat) ^ 48 = 281474976710656 from rfl] at e1 e2
    rw [show (f a + 281474976710656 * u) % 281474976710656 = f a by omega, show (17179869184 + 281474976710656 * v) % 281474976710656 = 17179869184 by omega] at e1
    rw [show (f a + 281474976710656 * u) / 281474976710656 = u by omega, show (17179869184 + 281474976710656 * v) / 281474976710656 = v by omega] at e2
    omega
def lsum (f : T3 → Nat) : List T3 → Nat
  | [] => 0
  | a :: l => f a + lsum f l
theorem pkf_mod (f : T3 → Nat) (l : List T3) : pkf f l % 281474976710655 = lsum f l % 281474976710655 := by
  induction l with
  | nil => rfl
  | cons a l ih =>
    show (f a + 281474976710656 * pkf f l) % 281474976710655 = (f a + lsum f l) % 281474976710655
    omega
theorem and_34 {a : Nat} (h : a < 34359738368) : a &&& 17179869184 = if 17179869184 ≤ a then 17179869184 else 0 := by
  have e1 := Nat.and_mod_two_pow (a := a) (b := 17179869184) (n := 34)
  have e2 := Nat.and_div_two_pow (a := a) (b := 17179869184) (n := 34)
  rw [show (2 : Nat) ^ 34 = 17179869184 from rfl] at e1 e2
  rw [show (17179869184 : Nat) % 17179869184 = 0 from rfl, Nat.and_zero] at e1
  rw [show (17179869184 : Nat) / 17179869184 = 1 from rfl] at e2
  by_cases h1 : 17179869184 ≤ a
  · rw [show a / 17179869184 = 1 by omega, show (1 &&& 1 : Nat) = 1 from rfl] at e2
    rw [if_pos h1]
    omega
  · rw [show a / 17179869184 = 0 by omega, Nat.zero_and] at e2
    rw [if_neg h1]
    omega
theorem lsum_count (p : T3 → Bool) (l : List T3) : lsum (fun a => if p a = true then 17179869184 else 0) l = 17179869184 * l.countP p := by
  induction l with
  | nil => rfl
  | cons a l ih =>
    show (if p a = true then 17179869184 else 0) + lsum (fun a => if p a = true then 17179869184 else 0) l = _
    rw [ih, List.countP_cons]
    split <;> omega
theorem countP_split {p q : T3 → Bool} {l : List T3} (h : ∀ a, a ∈ l → q a = true → p a = true) : l.countP p = l.countP q + l.countP (fun a => p a && !q a) := by
  induction l with
  | nil => rfl
  | cons a l ih =>
    have h1 := ih (fun b hb => h b (List.mem_cons_of_mem _ hb))
    have h2 := h a List.mem_cons_self
    rw [List.countP_cons, List.countP_cons, List.countP_cons, h1]
    cases hp : p a <;> cases hq : q a <;> simp [hp, hq] at h2 ⊢ <;> omega
/-- how many slots hold 2^34 exactly -/
theorem pkf_count {f : T3 → Nat} {l : List T3} (hl : l.length < 16384) (h0 : ∀ a, a ∈ l → 1 ≤ f a) (h1 : ∀ a, a ∈ l → f a < 34359738368) {H : Nat}
    (hc : (pkf f l &&& pkf (fun _ => 17179869184) l) % 281474976710655 ≤ ((pkf f l - pkf (fun _ => 1) l) &&& pkf (fun _ => 17179869184) l) % 281474976710655 + 17179869184 * H) :
    l.countP (fun a => f a == 17179869184) ≤ H := by
  rw [pkf_sub h0] at hc
  rw [pkf_land (fun a ha => by have := h1 a ha; omega), pkf_land (fun a ha => by have := h1 a ha; omega)] at hc
  rw [pkf_mod, pkf_mod] at hc
  have e1 : lsum (fun a => f a &&& 17179869184) l = 17179869184 * l.countP (fun a => decide (17179869184 ≤ f a)) := by
    rw [← lsum_count]
    clear hc
    induction l with
    | nil => rfl
    | cons a l ih =>
      show (f a &&& 17179869184) + lsum _ l = (if decide (17179869184 ≤ f a) = true then 17179869184 else 0) + lsum _ l
      rw [and_34 (h1 a List.mem_cons_self), ih (by simp at hl; omega) (fun b hb => h0 b (List.mem_cons_of_mem _ hb)) (fun b hb => h1 b (List.mem_cons_of_mem _ hb))]
      simp
  have e2 : lsum (fun a => (f a - 1) &&& 17179869184) l = 17179869184 * l.countP (fun a => decide (17179869185 ≤ f a)) := by
    rw [← lsum_count]
    clear hc e1
    induction l with
    | nil => rfl
    | cons a l ih =>
      show ((f a - 1) &&& 17179869184) + lsum _ l = (if decide (17179869185 ≤ f a) = true then 17179869184 else 0) + lsum _ l
      have := h1 a List.mem_cons_self
      rw [and_34 (by omega), ih (by simp at hl; omega) (fun b hb => h0 b (List.mem_cons_of_mem _ hb)) (fun b hb => h1 b (List.mem_cons_of_mem _ hb))]
      have : (17179869184 ≤ f a - 1) = (17179869185 ≤ f a) := by
        apply propext; omega
      simp [this]
  rw [e1, e2] at hc
  have l1 := List.countP_le_length (p := fun a => decide (17179869184 ≤ f a)) (l := l)
  have l2 := List.countP_le_length (p := fun a => decide (17179869185 ≤ f a)) (l := l)
  have hs := countP_split (p := fun a => decide (17179869184 ≤ f a)) (q := fun a => decide (17179869185 ≤ f a)) (l := l) (fun a _ h => by simp at h ⊢; omega)
  have e3 : l.countP (fun a => decide (17179869184 ≤ f a) && !decide (17179869185 ≤ f a)) = l.countP (fun a => f a == 17179869184) := by
    refine List.countP_congr fun a _ => ?_
    simp
    omega
  rw [e3] at hs
  omega
