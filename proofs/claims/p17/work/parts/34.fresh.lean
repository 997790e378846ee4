/-! ===== a new filter ===== -/
def freshFV (kd : Int32) (n : Nat) (st : Int32) : FV := ((kd, nI n, st, 0, 0), (0, 0, 0, 0), (dV 0, dV 0), cutN n (fun _ => dV 0), cutN 16 (fun _ => dV 0), cutP (kd = 3) n (fun a c => if a = c then dV H100 else dV 0))
def freshU (ad ar : Nat → Nat) (n : Nat) (kd st : Int32) (P : Nat → Nat → UInt64) : CFt := (ad, ar, n, (fun k => if k = 0 then kd else if k = 1 then st else 0), (fun _ => 0), (fun _ _ => 0), P)
theorem freshU_ok {ad ar : Nat → Nat} {n : Nat} {kd st : Int32} {P : Nat → Nat → UInt64} (h1 : 1 ≤ n) (h8 : n ≤ 8) (h4 : kd = 3 → n ≤ 4) (hs : stpB kd st) (hP : kd = 3 → ∀ a b, a < n → b < n → P a b = if a = b then H100 else 0) :
    vcF (freshU ad ar n kd st P) = freshFV kd n st ∧ ∀ T, okF T (freshU ad ar n kd st P) := by
  refine ⟨Prod.ext rfl (Prod.ext rfl (Prod.ext rfl (Prod.ext rfl (Prod.ext rfl ?_)))), fun T => ⟨h1, h8, h4, ⟨0, rfl, by omega⟩, (show (0 : Int32) ≤ 0 by decide), (show (0 : Int32) ≤ 0 by decide), fun j hj => ?_, hs⟩⟩
  · show cutP (kd = 3) n (fun a c => dV (P a c)) = cutP (kd = 3) n (fun a c => if a = c then dV H100 else dV 0)
    exact cutP_eq fun k a c ha hc => by rw [hP k a c ha hc]; split <;> rfl
  · show dV 0 ≠ nzD
    decide +kernel
/-- filter, over a filter as a value -/
theorem c_filter (l : Launch) (G : va_G) (q : Nat → ClassId) (sz : Nat) (o3 o1 af nf : Nat) (oa : Nat → Nat) (n : Nat) (kd st : Int32) (hnf : nf < 6) (hkd : 0 ≤ kd ∧ kd ≤ 3) (h1 : 1 ≤ n) (h8 : n ≤ 8) (h4 : kd = 3 → n ≤ 4) (hs : stpB kd st) :
    Met l yX3_filter wsX3_filter ({ frames := 6, cells := 11, slots := 73, locals := 140 } : Jvm.Room) (PreW G q [.ref o3, .int kd, .int (nI n), .int st] [(o3, .inr (3, [.ref o1, .ref af, .int (nI nf)])), (af, aF q 6 (fun j => if j < nf then some (oa j) else none))] sz)
      (va_Qi (fun (r : Int32) (u : CFt) => r = nI nf ∧ vcF u = freshFV kd n st ∧ ∀ T, okF T u) (fun u t => EndA G (va_A [(o3, .inr (3, [.ref o1, .ref af, .int (nI nf)])), (af, aF q 6 (fun j => if j < nf then some (oa j) else none))] sz) ([(o3, .inr (3, [.ref o1, .ref af, .int (nI (nf + 1))])), (af, aF q 6 (fun j => if j < nf + 1 then some (vf_upd oa nf (cAd u 0) j) else none))] ++ fW q u) t) (va_A [(o3, .inr (3, [.ref o1, .ref af, .int (nI nf)])), (af, aF q 6 (fun j => if j < nf then some (oa j) else none))] sz)) 11 73 (va_A [(o3, .inr (3, [.ref o1, .ref af, .int (nI nf)])), (af, aF q 6 (fun j => if j < nf then some (oa j) else none))] sz) := by
  by_cases hk : kd = 3
  · refine (m_X3_filterR l G q sz o3 o1 af nf oa n kd st hnf hkd hk (h4 hk) h1 hs).cons (fun _ _ h => h) (fun a U o t hP hQ => ?_) (fun _ h => h)
    obtain ⟨⟨r, u, e1, e2, e3⟩, e4⟩ := hQ
    have h5 := freshU_ok (ad := fun k => [u.1, u.2.1, u.2.2.1, u.2.2.2.1, u.2.2.2.2.1, u.2.2.2.2.2.1, u.2.2.2.2.2.2.1].getD k 0) (ar := u.2.2.2.2.2.2.2.1) (st := st) (P := u.2.2.2.2.2.2.2.2) h1 h8 h4 hs (fun _ => e2.2)
    generalize hv : freshU (fun k => [u.1, u.2.1, u.2.2.1, u.2.2.2.1, u.2.2.2.2.1, u.2.2.2.2.2.1, u.2.2.2.2.2.2.1].getD k 0) u.2.2.2.2.2.2.2.1 n kd st u.2.2.2.2.2.2.2.2 = v at h5
    refine ⟨⟨r, v, e1, ⟨e2.1, h5⟩, ?_⟩, e4⟩
    subst hv
    try dsimp only
    unfold fW fObj
    rw [sqV_r (v := freshU _ _ n kd st _) hk, show sqX q (freshU (fun k => [u.1, u.2.1, u.2.2.1, u.2.2.2.1, u.2.2.2.2.1, u.2.2.2.2.2.1, u.2.2.2.2.2.2.1].getD k 0) u.2.2.2.2.2.2.2.1 n kd st u.2.2.2.2.2.2.2.2) = _ from if_pos hk]
    exact e3
  · refine (m_X3_filterN l G q sz o3 o1 af nf oa n kd st hnf hkd hk h8 h1 hs).cons (fun _ _ h => h) (fun a U o t hP hQ => ?_) (fun _ h => h)
    obtain ⟨⟨r, u, e1, e2, e3⟩, e4⟩ := hQ
    have h5 := freshU_ok (ad := fun k => [u.1, u.2.1, u.2.2].getD k 0) (ar := fun _ => 0) (st := st) (P := fun _ _ => 0) h1 h8 h4 hs (fun k => absurd k hk)
    refine ⟨⟨r, freshU (fun k => [u.1, u.2.1, u.2.2].getD k 0) (fun _ => 0) n kd st (fun _ _ => 0), e1, ⟨e2, h5⟩, ?_⟩, e4⟩
    dsimp only
    unfold fW fObj
    rw [sqV_n (v := freshU (fun k => [u.1, u.2.1, u.2.2].getD k 0) (fun _ => 0) n kd st (fun _ _ => 0)) hk, sqX_n (v := freshU (fun k => [u.1, u.2.1, u.2.2].getD k 0) (fun _ => 0) n kd st (fun _ _ => 0)) hk]
    exact e3
theorem cutP_eq2 {k k2 : Prop} [Decidable k] [Decidable k2] (hk : k ↔ k2) {n : Nat} {f g : Nat → Nat → Dt} (h : k2 → ∀ a c, a < n → c < n → f a c = g a c) : cutP k n f = cutP k2 n g := by
  funext a c
  unfold cutP
  by_cases e : k2 ∧ a < n ∧ c < n
  · rw [if_pos e, if_pos ⟨hk.mpr e.1, e.2⟩, h e.1 a c e.2.1 e.2.2]
  · rw [if_neg e, if_neg (fun z => e ⟨hk.mp z.1, z.2⟩)]