/-! ===== the start: one call at the most ===== -/
theorem p1_ok : RFok hearG (fun _ _ => False) (fun _ _ => True) :=
  ⟨fun _ _ _ _ _ => trivial, fun _ _ _ h => h.elim, fun _ _ _ _ h => h.elim, fun _ _ h => h.elim, fun _ _ _ => trivial, fun _ _ h => h.elim, fun _ _ _ => trivial⟩
theorem whole_start {p : Program} {e : Env} {s : State} {m : MethodId} {below : List Frame} {meth : Method} {c : Code} (l : Launch) (hflags : l.flags = flags0) {b L : Nat} {xs : Nat → Int32} (hL : L ≤ 4) (C0 : lw_At p s m meth c b L xs) : W p l e room_1 s m #[Value.ref b] below meth c s.heap [] 0 0 (lw_Z below #[Value.ref b] s) (entryFrame m ([Value.ref b] : List Value).toArray 10) := by
  exact whole_go p1_ok (fun _ _ h => h.elim) l (c_hearG l) hflags hL C0
