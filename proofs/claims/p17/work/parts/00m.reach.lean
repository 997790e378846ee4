theorem rw4_at {n i j : Nat} {P : Nat → Nat → Dt} (h : j < n) : rw4 n P i j = rv (P i j) := if_pos h
theorem live_step {n i : Nat} (hn : n ≤ 4) (hi : i < n) {mu : Dt} {P Q : Nat → Nat → Dt} (hmu : okMu mu)
    (hm : ∀ a c, a < n → c < n → fn (P a c) ∧ ab (rv (P a c) * rv mu - rv (Q a c)) ≤ 2097152 + ab (rv (Q a c)) / 2251799813685248) : stepR (rw4 n Q i) (rw4 n P i) (rv mu) := by
  refine ⟨hmu.2.1, hmu.2.2, fun j _ => ?_⟩
  unfold rw4
  by_cases e : j < n
  · rw [if_pos e, if_pos e]
    exact (hm i j hi e).2
  · rw [if_neg e, if_neg e, Rat.zero_mul, show (0 : Rat) - 0 = 0 by decide +kernel, ab_zero]
    decide +kernel
theorem live_g {n i : Nat} (hn : n ≤ 4) (hi : i < n) {Q : Nat → Nat → Dt} {w : Nat → Int32} (hQ : ∀ a c, a < n → c < n → fn (Q a c)) (hx : okX n w) (hg : ab (rv (sOut n (Q i) w)) ≤ 4294967296) (ht : ∀ j, j < 4 → ab (rw4 n Q i j) ≤ zp 980) : ∀ R, top (rw4 n Q i) R → 1180591620717411303424 ≤ R → ab (dot (rw4 n Q i) w) ≤ 4294967296 + R / 68719476736 := by
  intro R hR hR0
  have hR2 : R ≤ zp 1000 := by
    obtain ⟨-, j, hj, e⟩ := hR
    have a := ht j hj
    rw [e] at a
    have b : zp 980 ≤ zp 1000 := by decide +kernel
    exact Rat.le_trans a b
  obtain ⟨-, h2⟩ := g_val (w := Q i) (xi := w) (R := R) hn hx (by grind) hR2 (fun j hj => ⟨hQ i j hi hj, by have := hR.1 j (by omega); rw [rw4_at hj] at this; exact this⟩)
  rw [dot_rsum hn] at h2
  have h3 := ab_sub (rv (sOut n (Q i) w)) (rv (sOut n (Q i) w) - dot (rw4 n Q i) w)
  rw [show rv (sOut n (Q i) w) - (rv (sOut n (Q i) w) - dot (rw4 n Q i) w) = dot (rw4 n Q i) w by grind] at h3
  grind
theorem reach_ok {n : Nat} (hn : n ≤ 4) : ∀ (ws : List (Nat → Int32)) (P : Nat → Nat → Dt), (∀ w, w ∈ ws → okW w) → HB ws → Reach n ws P → okP n (zp 980) P ∧ ∀ i, i < n → Str n i ws P := by
  intro ws
  induction ws with
  | nil => intro P _ _ h; exact fresh_ok h []
  | cons w ws ih =>
    intro P hw hB h
    have hw' : ∀ x, x ∈ ws → okW x := fun x hx => hw x (List.mem_cons_of_mem _ hx)
    rcases h with h | h | ⟨mu, Q, hmu, hQ, e⟩
    · exact fresh_ok h _
    · obtain ⟨h1, h2⟩ := ih P hw' hB.tail h
      exact ⟨h1, fun i hi => (h2 i hi).cons w⟩
    · obtain ⟨h1, h2⟩ := ih Q hw' hB.tail hQ
      by_cases hr : rRes n mu Q w = true
      · refine fresh_ok (fun a c ha hc => ?_) _
        rw [e a c ha hc]
        exact if_pos hr
      · have e' : ∀ a c, a < n → c < n → P a c = rQ n mu Q w a c := fun a c ha hc => (e a c ha hc).trans (if_neg hr)
        unfold rRes at hr
        rw [Bool.or_eq_true, decide_eq_true_eq] at hr
        have hlow : ¬ rLow n mu Q w := fun z => hr (Or.inl z)
        have hov : ¬ rOv (fun i => rQ n mu Q w i i) n = true := fun z => hr (Or.inr z)
        have hx : okX n w := fun k hk => hw w List.mem_cons_self k (by omega)
        have z := zp_980b
        obtain ⟨l1, l2, l3⟩ := rls_live hn h1 (by grind) Rat.le_refl hx hmu hlow hov
        have hm : ∀ a c, a < n → c < n → fn (P a c) ∧ ab (rv (P a c) * rv mu - rv (Q a c)) ≤ 2097152 + ab (rv (Q a c)) / 2251799813685248 := fun a c ha hc => by rw [e' a c ha hc]; exact l2 a c ha hc
        have hdg : ∀ i, i < n → 0 ≤ rv (P i i) ∧ rv (P i i) ≤ 1000000 := fun i hi => by rw [e' i i hi hi]; exact l3 i hi
        have hS : ∀ i, i < n → Str n i (w :: ws) P := by
          intro i hi
          refine str_step (by omega) hw hB (live_step hn hi hmu hm) ?_ (live_g hn hi (fun a c ha hc => (h1.1 a c ha hc).1) hx (l1 i hi) (str_top (h2 i hi))) (h2 i hi)
          rw [rw4_at hi, ab_of_nonneg (hdg i hi).1]
          exact (hdg i hi).2
        refine ⟨⟨fun a c ha hc => ⟨(hm a c ha hc).1, ?_⟩, hdg⟩, hS⟩
        have := str_top (hS a ha) c (by omega)
        rw [rw4_at hc] at this
        exact this
