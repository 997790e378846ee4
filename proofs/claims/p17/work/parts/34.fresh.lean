/-! ===== a new filter ===== -/
def freshFV (kd : Int32) (n : Nat) (st : Int32) : FV := ((kd, nI n, st, 0, 0), (0, 0, 0, 0), (dV 0, dV 0), cutN n (fun _ => dV 0), cutN 16 (fun _ => dV 0), cutP (kd = 3) n (fun a c => if a = c then dV H100 else dV 0))
def freshU (ad ar : Nat → Nat) (n : Nat) (kd st : Int32) (P : Nat → Nat → UInt64) : CFt := (ad, ar, n, (fun k => if k = 0 then kd else if k = 1 then st else 0), (fun _ => 0), (fun _ _ => 0), P)
theorem freshU_ok {ad ar : Nat → Nat} {n : Nat} {kd st : Int32} {P : Nat → Nat → UInt64} (h1 : 1 ≤ n) (h8 : n ≤ 8) (h4 : kd = 3 → n ≤ 4) (hs : stpB kd st) (hP : kd = 3 → ∀ a b, a < n → b < n → P a b = if a = b then H100 else 0) :
    vcF (freshU ad ar n kd st P) = freshFV kd n st ∧ ∀ T, okF T (freshU ad ar n kd st P) := by
  refine ⟨Prod.ext rfl (Prod.ext rfl (Prod.ext rfl (Prod.ext rfl (Prod.ext rfl ?_)))), fun T => ⟨h1, h8, h4, ⟨0, rfl, by omega⟩, (show (0 : Int32) ≤ 0 by decide), (show (0 : Int32) ≤ 0 by decide), fun j hj => ?_, hs⟩⟩
  · show cutP (kd = 3) n (fun a c => dV (P a c)) = cutP (kd = 3) n (fun a c => if a = c then dV H100 else dV 0)
    exact cutP_eq fun k a c ha hc => by rw [hP k a c ha hc]; split <;> rfl
  · show dV 0 ≠ nzD
    decide +kernel
/-- filter, over a filter as a value -/
theorem c_filter (l : Launch) (G : va_G) (q : Nat → ClassId) (sz : Nat) (o3 o1 af nf : Nat) (oa : Nat → Nat) (n : Nat) (kd st : Int32) (hnf : nf < 6) (hkd : 0 ≤ kd ∧ kd ≤ 3) (h1 : 1 ≤ n) (h8 : n ≤ 8) (h4 : kd = 3 → n ≤ 4) (hs : stpB kd st) :
    Met l yX3_filter wsX3_filter ({ frames := 6, cells := 11, slots := 73, locals := 140 } : Jvm.Room) (PreW G q [.ref o3, .int kd, .int (nI n), .int st] [(o3, .inr (3, [.ref o1, .ref af, .int (nI nf)])), (af, aF q 6 (fun j => if j < nf then some (oa j) else none))] sz)
      (va_Qi (fun (r : Int32) (u : CFt) => r = nI nf ∧ vcF u = freshFV kd n st ∧ ∀ T, okF T u) (fun u t => EndA G (va_A [(o3, .inr (3, [.ref o1, .ref af, .int (nI nf)])), (af, aF q 6 (fun j => if j < nf then some (oa j) else none))] sz) ([(o3, .inr (3, [.ref o1, .ref af, .int (nI (nf + 1))])), (af, aF q 6 (fun j => if j < nf + 1 then some (vf_upd oa nf (cAd u 0) j) else none))] ++ fW q u) t) (va_A [(o3, .inr (3, [.ref o1, .ref af, .int (nI nf)])), (af, aF q 6 (fun j => if j < nf then some (oa j) else none))] sz)) 11 73 (va_A [(o3, .inr (3, [.ref o1, .ref af, .int (nI nf)])), (af, aF q 6 (fun j => if j < nf then some (oa j) else none))] sz) := by
  by_cases hk : kd = 3
  · refine (m_X3_filterR l G q sz o3 o1 af nf oa n kd st hnf hkd hk (h4 hk) h1 hs).cons (fun _ _ h => h) (fun a U o t hP hQ => ?_) (fun _ h => h)
    obtain ⟨⟨r, u, e1, e2, e3⟩, e4⟩ := hQ
    have h5 := freshU_ok (ad := fun k => [u.1, u.2.1, u.2.2.1, u.2.2.2.1, u.2.2.2.2.1, u.2.2.2.2.2.1, u.2.2.2.2.2.2.1].getD k 0) (ar := u.2.2.2.2.2.2.2.1) (st := st) (P := u.2.2.2.2.2.2.2.2) h1 h8 h4 hs (fun _ => e2.2)
    generalize hv : freshU (fun k => [u.1, u.2.1, u.2.2.1, u.2.2.2.1, u.2.2.2.2.1, u.2.2.2.2.2.1, u.2.2.2.2.2.2.1].getD k 0) u.2.2.2.2.2.2.2.1 n kd st u.2.2.2.2.2.2.2.2 = v at h5
    refine ⟨⟨r, v, e1, ⟨e2.1, h5⟩, ?_⟩, e4⟩
    subst hv
    try dsimp only
    unfold fW fObj
    rw [sqV_r (v := freshU _ _ n kd st _) hk, show sqX q (freshU (fun k => [u.1, u.2.1, u.2.2.1, u.2.2.2.1, u.2.2.2.2.1, u.2.2.2.2.2.1, u.2.2.2.2.2.2.1].getD k 0) u.2.2.2.2.2.2.2.1 n kd st u.2.2.2.2.2.2.2.2) = _ from if_pos hk]
    exact e3
  · refine (m_X3_filterN l G q sz o3 o1 af nf oa n kd st hnf hkd hk h8 h1 hs).cons (fun _ _ h => h) (fun a U o t hP hQ => ?_) (fun _ h => h)
    obtain ⟨⟨r, u, e1, e2, e3⟩, e4⟩ := hQ
    have h5 := freshU_ok (ad := fun k => [u.1, u.2.1, u.2.2].getD k 0) (ar := fun _ => 0) (st := st) (P := fun _ _ => 0) h1 h8 h4 hs (fun k => absurd k hk)
    refine ⟨⟨r, freshU (fun k => [u.1, u.2.1, u.2.2].getD k 0) (fun _ => 0) n kd st (fun _ _ => 0), e1, ⟨e2, h5⟩, ?_⟩, e4⟩
    dsimp only
    unfold fW fObj
    rw [sqV_n (v := freshU (fun k => [u.1, u.2.1, u.2.2].getD k 0) (fun _ => 0) n kd st (fun _ _ => 0)) hk, sqX_n (v := freshU (fun k => [u.1, u.2.1, u.2.2].getD k 0) (fun _ => 0) n kd st (fun _ _ => 0)) hk]
    exact e3
theorem cutP_eq2 {k k2 : Prop} [Decidable k] [Decidable k2] (hk : k ↔ k2) {n : Nat} {f g : Nat → Nat → Dt} (h : k2 → ∀ a c, a < n → c < n → f a c = g a c) : cutP k n f = cutP k2 n g := by
  funext a c
  unfold cutP
  by_cases e : k2 ∧ a < n ∧ c < n
  · rw [if_pos e, if_pos ⟨hk.mpr e.1, e.2⟩, h e.1 a c e.2.1 e.2.2]
  · rw [if_neg e, if_neg (fun z => e ⟨hk.mp z.1, z.2⟩)]
/-- a slot that no filter has had -/
def virgin (I : Nat → Nat → Int32) (D : Nat → Nat → UInt64) (g : Nat) : Prop := (∀ k, 3 ≤ k → k < 9 → I k g = 0) ∧ D 1 g = 0 ∧ D 2 g = 0 ∧ (∀ j, j < 8 → D 0 (8 * g + j) = 0) ∧ ∀ j, j < 16 → D 3 (16 * g + j) = 0
theorem sameS_virgin {I J : Nat → Nat → Int32} {D E : Nat → Nat → UInt64} {g : Nat} (h : sameS I J D E g) (hv : virgin I D g) : virgin J E g :=
  ⟨fun k h3 h9 => (h.1 k h9).trans (hv.1 k h3 h9), h.2.1.trans hv.2.1, h.2.2.1.trans hv.2.2.1, fun j hj => (h.2.2.2.1 j hj).trans (hv.2.2.2.1 j hj), fun j hj => (h.2.2.2.2.1 j hj).trans (hv.2.2.2.2 j hj)⟩
theorem filter_FV {I : Nat → Nat → Int32} {D : Nat → Nat → UInt64} {fx n : Nat} {kd st : Int32} {F : Nat → UInt64} (hv : virgin I D fx) (hn : n ≤ 8) (hn4 : kd = 3 → n ≤ 4) (hS : ∀ a c, a < 4 → c < 4 → F (16 * fx + 4 * a + c) = if a = c then H100 else 0) :
    mF (mkI (vf_upd (I 0) fx kd) (vf_upd (I 1) fx (nI n)) (vf_upd (I 2) fx st) (I 3) (I 4) (I 5) (I 6) (I 7) (I 8)) (mkD (D 0) (D 1) (D 2) (D 3) F) fx = freshFV kd n st := by
  have hnn : tn (nI n) = n := tn_nI (by omega)
  obtain ⟨v1, v2, v3, v4, v5⟩ := hv
  refine Prod.ext ?_ (Prod.ext ?_ (Prod.ext ?_ (Prod.ext ?_ (Prod.ext ?_ ?_))))
  · show ((vf_upd (I 0) fx kd) fx, (vf_upd (I 1) fx (nI n)) fx, (vf_upd (I 2) fx st) fx, I 3 fx, I 4 fx) = _
    rw [vf_self, vf_self, vf_self, v1 3 (by decide) (by decide), v1 4 (by decide) (by decide)]
    rfl
  · show (I 5 fx, I 6 fx, I 7 fx, I 8 fx) = _
    rw [v1 5 (by decide) (by decide), v1 6 (by decide) (by decide), v1 7 (by decide) (by decide), v1 8 (by decide) (by decide)]
    rfl
  · show (dV (D 1 fx), dV (D 2 fx)) = _
    rw [v2, v3]
    rfl
  · show cutN (tn ((vf_upd (I 1) fx (nI n)) fx)) (fun j => dV (D 0 (8 * fx + j))) = cutN n (fun _ => dV 0)
    rw [vf_self, hnn]
    exact cutN_eq fun j hj => by rw [v4 j (by omega)]
  · show cutN 16 (fun j => dV (D 3 (16 * fx + j))) = cutN 16 (fun _ => dV 0)
    exact cutN_eq fun j hj => by rw [v5 j hj]
  · show cutP ((vf_upd (I 0) fx kd) fx = 3) (tn ((vf_upd (I 1) fx (nI n)) fx)) (fun a c => dV (F (16 * fx + 4 * a + c))) = cutP (kd = 3) n (fun a c => if a = c then dV H100 else dV 0)
    rw [vf_self (f := I 1), hnn]
    exact cutP_eq2 (by rw [vf_self]) fun k a c ha hc => by have := hn4 k; rw [hS a c (by omega) (by omega)]; split <;> rfl
theorem filter_same {I : Nat → Nat → Int32} {D : Nat → Nat → UInt64} {fx g n : Nat} {kd st : Int32} {F : Nat → UInt64} (hg : g ≠ fx) (hS : ∀ i, (i < 16 * fx ∨ 16 * fx + 16 ≤ i) → F i = D 4 i) :
    sameS I (mkI (vf_upd (I 0) fx kd) (vf_upd (I 1) fx (nI n)) (vf_upd (I 2) fx st) (I 3) (I 4) (I 5) (I 6) (I 7) (I 8)) D (mkD (D 0) (D 1) (D 2) (D 3) F) g := by
  have ne : ∀ {α : Type} (f : Nat → α) (v : α), vf_upd f fx v g = f g := fun f v => if_neg hg
  refine ⟨fun k hk => ?_, rfl, rfl, fun j hj => rfl, fun j hj => rfl, fun j hj => hS _ (by omega)⟩
  match k, hk with
  | 0, _ => exact ne _ _
  | 1, _ => exact ne _ _
  | 2, _ => exact ne _ _
  | 3, _ => rfl
  | 4, _ => rfl
  | 5, _ => rfl
  | 6, _ => rfl
  | 7, _ => rfl
  | 8, _ => rfl
