/-! ===== the start: filters are alike in kind, taps, step, watch and tail ===== -/
theorem hearM_1 (xi : Nat → Int32) (mi : Dt) (v : FV) : (hearM xi mi v).1 = v.1 := rfl
theorem hearG_1 (xi : Nat → Int32) (mi : Dt) (v : FV) : (hearG xi mi v).1 = v.1 := by
  unfold hearG
  split
  · rfl
  · rfl
theorem part_ok : RFok hearG (fun v w => v.1 = w.1) (fun v w => v.1 = w.1) := by
  refine ⟨fun xi mi v w h => ?_, fun x v w h => ?_, fun a b v w h => ?_, fun v w h => h, fun _ _ _ => rfl, fun v w h => h, fun v w h => h⟩
  · show (hearG xi mi v).1 = (hearM xi mi w).1
    rw [hearG_1, hearM_1]; exact h
  · show (v.1.1, v.1.2.1, x, v.1.2.2.2.1, v.1.2.2.2.2) = (w.1.1, w.1.2.1, x, w.1.2.2.2.1, w.1.2.2.2.2)
    rw [h]
  · show (v.1.1, v.1.2.1, v.1.2.2.1, a, b) = (w.1.1, w.1.2.1, w.1.2.2.1, a, b)
    rw [h]
theorem whole_start {p : Program} {e : Env} {s : State} {m : MethodId} {below : List Frame} {meth : Method} {c : Code} (l : Launch) (hflags : l.flags = flags0) {b L : Nat} {xs : Nat → Int32} (hL : L ≤ 2048) (C0 : lw_At p s m meth c b L xs) : W p l e room_1 s m #[Value.ref b] below meth c s.heap [] 0 0 (lw_Z below #[Value.ref b] s) (entryFrame m ([Value.ref b] : List Value).toArray 10) := by
  exact whole_go part_ok l (c_hearG l) hflags hL C0
