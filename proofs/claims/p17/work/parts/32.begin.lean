/-! ===== begin ===== -/
def beginV (v : FV) : FV := (v.1, (0, 0, 0, 0), (dV 0, dV 0), cutN (tn v.1.2.1) (fun _ => dV 0), v.2.2.2.2.1, cutP (v.1.1 = 3) (tn v.1.2.1) (fun a c => if a = c then dV H100 else dV 0))
def beginU (v : CFt) (w : Nat → UInt64) (P : Nat → Nat → UInt64) : CFt :=
  (v.1, v.2.1, v.2.2.1, (fun k => if k = 0 then cIn v 0 else if k = 1 then cIn v 1 else if k = 2 then cIn v 2 else if k = 3 then cIn v 3 else 0), (fun _ => 0), (fun k => if k = 0 then w else cAr v k), P)
theorem beginU_ok {v : CFt} {T : Nat} {w : Nat → UInt64} {P : Nat → Nat → UInt64} (hv : okF T v) (h1 : ∀ i, i < cNn v → w i = 0) (h2 : cIn v 0 = 3 → ∀ a b, a < cNn v → b < cNn v → P a b = if a = b then H100 else 0) :
    vcF (beginU v w P) = beginV (vcF v) ∧ okF T (beginU v w P) := by
  obtain ⟨v1, v2, v3, v4, v5, v6, v7, v8⟩ := hv
  have hn : tn (nI (cNn v)) = cNn v := tn_nI (by omega)
  refine ⟨?_, v1, v2, v3, ⟨0, rfl, by omega⟩, (show (0 : Int32) ≤ 0 by decide), v6, fun j hj => ?_, v8⟩
  · refine Prod.ext rfl (Prod.ext rfl (Prod.ext rfl (Prod.ext ?_ (Prod.ext rfl ?_))))
    · show cutN (cNn v) (fun j => dV (w j)) = cutN (tn (nI (cNn v))) (fun _ => dV 0)
      rw [hn]
      exact cutN_eq fun j hj => by rw [h1 j hj]
    · show cutP (cIn v 0 = 3) (cNn v) (fun a c => dV (P a c)) = cutP (cIn v 0 = 3) (tn (nI (cNn v))) (fun a c => if a = c then dV H100 else dV 0)
      rw [hn]
      exact cutP_eq fun k a c ha hc => by rw [h2 k a c ha hc]; split <;> rfl
  · show dV (w j) ≠ nzD
    rw [h1 j hj]
    decide +kernel
theorem perm_r {x y a b c d e : Nat × va_E} {s : va_W} : (x :: y :: a :: b :: c :: d :: e :: s).Perm (([x, y, b, c] ++ s) ++ [a, d, e]) := by
  show (x :: y :: a :: b :: c :: d :: e :: s).Perm (x :: y :: b :: c :: (s ++ [a, d, e]))
  refine List.Perm.cons _ (List.Perm.cons _ ?_)
  refine (List.Perm.swap b a _).trans (List.Perm.cons _ ((List.Perm.swap c a _).trans (List.Perm.cons _ ?_)))
  exact List.perm_append_comm (l₁ := [a, d, e]) (l₂ := s)
/-- restart, over a filter as a value -/
theorem c_restart (l : Launch) (G : va_G) (q : Nat → ClassId) (sz : Nat) (v : CFt) (T : Nat) (hv : okF T v) :
    Met l yX0_restart wsX0_restart ({ frames := 3, cells := 0, slots := 0, locals := 80 } : Jvm.Room) (PreW G q [.ref (cAd v 0)] (fW q v) sz)
      (va_Qv (fun u : CFt => sameF u v ∧ vcF u = beginV (vcF v) ∧ okF T u) (fun u t => EndA G (va_A (fW q v) sz) (fW q u) t) (va_A (fW q v) sz)) 0 0 (va_A (fW q v) sz) := by
  by_cases hk : cIn v 0 = 3
  · have h0 := m_X0_restartR l G q sz (cAd v 0) (cAd v 1) (cAd v 2) (cNn v) (cIn v 0) (cIn v 1) (cIn v 2) (cIn v 3) (cIn v 4) (cIn v 5) (cIn v 6) (cIn v 7) (cDb v 0) (cDb v 1) (cAr v 0) (cAd v 3) (cAd v 4) (cAd v 5) (cAd v 6) (cRw v) (cPm v) (hv.2.2.1 hk)
    have e0 : fW q v = fObj v :: (cAd v 1, aD q (cNn v) (cAr v 0)) :: (cAd v 2, aD q 16 (cAr v 1)) :: (cAd v 3, .inr (2, [.int (nI (cNn v)), .ref (cAd v 4), .ref (cAd v 5), .ref (cAd v 6)])) :: (cAd v 4, aA q (cNn v) (fun j => if j < cNn v then some (cRw v j) else none)) :: (cAd v 5, aD q (cNn v) (cAr v 2)) :: (cAd v 6, aD q (cNn v) (cAr v 3)) :: rowsW q (cNn v) (cNn v) (cRw v) (cPm v) := by
      unfold fW
      rw [show sqX q v = _ from if_pos hk]
      rfl
    have e2 : fObj v = (cAd v 0, .inr (0, [.int (cIn v 0), .ref (cAd v 1), .ref (cAd v 2), .ref (cAd v 3), .int (cIn v 1), .int (cIn v 2), .int (cIn v 3), .int (cIn v 4), .double (cDb v 0), .double (cDb v 1), .int (cIn v 5), .int (cIn v 6), .int (cIn v 7)])) := by
      unfold fObj
      rw [sqV_r hk]
    have hp : (fW q v).Perm (([(cAd v 0, .inr (0, [.int (cIn v 0), .ref (cAd v 1), .ref (cAd v 2), .ref (cAd v 3), .int (cIn v 1), .int (cIn v 2), .int (cIn v 3), .int (cIn v 4), .double (cDb v 0), .double (cDb v 1), .int (cIn v 5), .int (cIn v 6), .int (cIn v 7)])), (cAd v 1, aD q (cNn v) (cAr v 0)), (cAd v 3, .inr (2, [.int (nI (cNn v)), .ref (cAd v 4), .ref (cAd v 5), .ref (cAd v 6)])), (cAd v 4, aA q (cNn v) (fun j => if j < cNn v then some (cRw v j) else none))] ++ rowsW q (cNn v) (cNn v) (cRw v) (cPm v)) ++ [(cAd v 2, aD q 16 (cAr v 1)), (cAd v 5, aD q (cNn v) (cAr v 2)), (cAd v 6, aD q (cNn v) (cAr v 3))]) := by
      rw [e0, e2]
      exact perm_r
    refine (Met.frV hp h0).cons (fun _ _ h => h) (fun a U o t hP hQ => ?_) (fun _ h => h)
    obtain ⟨⟨u, h1, h2, h3⟩, h4⟩ := hQ
    have h5 := beginU_ok (P := u.2) hv h2.1 (fun _ => h2.2)
    refine ⟨⟨beginU v u.1 u.2, h1, ⟨⟨rfl, rfl, rfl⟩, h5⟩, endA_perm h3 ?_⟩, h4⟩
    have e3 : fW q (beginU v u.1 u.2) = fObj (beginU v u.1 u.2) :: (cAd v 1, aD q (cNn v) u.1) :: (cAd v 2, aD q 16 (cAr v 1)) :: (cAd v 3, .inr (2, [.int (nI (cNn v)), .ref (cAd v 4), .ref (cAd v 5), .ref (cAd v 6)])) :: (cAd v 4, aA q (cNn v) (fun j => if j < cNn v then some (cRw v j) else none)) :: (cAd v 5, aD q (cNn v) (cAr v 2)) :: (cAd v 6, aD q (cNn v) (cAr v 3)) :: rowsW q (cNn v) (cNn v) (cRw v) u.2 := by
      unfold fW
      rw [show sqX q (beginU v u.1 u.2) = _ from if_pos hk]
      rfl
    have e4 : fObj (beginU v u.1 u.2) = (cAd v 0, .inr (0, [.int (cIn v 0), .ref (cAd v 1), .ref (cAd v 2), .ref (cAd v 3), .int (cIn v 1), .int (cIn v 2), .int (cIn v 3), .int 0, .double 0, .double 0, .int 0, .int 0, .int 0])) := by
      unfold fObj
      rw [sqV_r (v := beginU v u.1 u.2) hk]
      rfl
    rw [e3, e4]
    exact perm_r.symm
  · have h0 := m_X0_restartN l G q sz (cAd v 0) (cAd v 1) (cAd v 2) (cNn v) (cIn v 0) (cIn v 1) (cIn v 2) (cIn v 3) (cIn v 4) (cIn v 5) (cIn v 6) (cIn v 7) (cDb v 0) (cDb v 1) (cAr v 0) hv.2.1
    have e0 : fW q v = [(cAd v 0, .inr (0, [.int (cIn v 0), .ref (cAd v 1), .ref (cAd v 2), .null, .int (cIn v 1), .int (cIn v 2), .int (cIn v 3), .int (cIn v 4), .double (cDb v 0), .double (cDb v 1), .int (cIn v 5), .int (cIn v 6), .int (cIn v 7)])), (cAd v 1, aD q (cNn v) (cAr v 0)), (cAd v 2, aD q 16 (cAr v 1))] := by
      unfold fW fObj
      rw [sqX_n hk, sqV_n hk]
    have hp : (fW q v).Perm ([(cAd v 0, .inr (0, [.int (cIn v 0), .ref (cAd v 1), .ref (cAd v 2), .null, .int (cIn v 1), .int (cIn v 2), .int (cIn v 3), .int (cIn v 4), .double (cDb v 0), .double (cDb v 1), .int (cIn v 5), .int (cIn v 6), .int (cIn v 7)])), (cAd v 1, aD q (cNn v) (cAr v 0))] ++ [(cAd v 2, aD q 16 (cAr v 1))]) := by
      rw [e0]
      exact List.Perm.refl _
    refine (Met.frV hp h0).cons (fun _ _ h => h) (fun a U o t hP hQ => ?_) (fun _ h => h)
    obtain ⟨⟨u, h1, h2, h3⟩, h4⟩ := hQ
    have h5 := beginU_ok (P := cPm v) hv h2 (fun k => absurd k hk)
    refine ⟨⟨beginU v u (cPm v), h1, ⟨⟨rfl, rfl, rfl⟩, h5⟩, endA_perm h3 ?_⟩, h4⟩
    have e3 : fW q (beginU v u (cPm v)) = [(cAd v 0, .inr (0, [.int (cIn v 0), .ref (cAd v 1), .ref (cAd v 2), .null, .int (cIn v 1), .int (cIn v 2), .int (cIn v 3), .int 0, .double 0, .double 0, .int 0, .int 0, .int 0])), (cAd v 1, aD q (cNn v) u), (cAd v 2, aD q 16 (cAr v 1))] := by
      unfold fW fObj
      rw [sqX_n (v := beginU v u (cPm v)) hk, sqV_n (v := beginU v u (cPm v)) hk]
      rfl
    rw [e3]
    exact List.Perm.refl _