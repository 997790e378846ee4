/-! ===== what the law's loop asks of an act; the start's bench ===== -/
def NS (V : BV) (x : Int64 × BV) : Prop := x.1 = sen → x.2 = V
theorem ns_any {V : BV} {r : Int64} : NS V (r, V) := fun _ => rfl
theorem ns_if {V : BV} {c : Prop} [Decidable c] {x y : Int64 × BV} (hx : NS V x) (hy : NS V y) : NS V (if c then x else y) := by
  split <;> assumption
theorem ns_L {V : BV} {x : Int32} {W : BV} : NS V (x.toInt64, W) := fun h => absurd h toL_ne
theorem ns_0 {V W : BV} : NS V (0, W) := fun h => absurd (show (0 : Int64) = sen from h) (by decide)
theorem selV_ns {V : BV} {c : Int32} {x0 x3 x6 x7 x8 x9 x17 x18 x20 x22 x23 x24 x25 : Int64 × BV} (h0 : NS V x0) (h3 : NS V x3) (h6 : NS V x6) (h7 : NS V x7) (h8 : NS V x8) (h9 : NS V x9) (h17 : NS V x17) (h18 : NS V x18) (h20 : NS V x20) (h22 : NS V x22) (h23 : NS V x23) (h24 : NS V x24) (h25 : NS V x25) : NS V (selV c x0 x3 x6 x7 x8 x9 x17 x18 x20 x22 x23 x24 x25) := by
  unfold selV
  repeat' split
  all_goals assumption
theorem ns_path (V : BV) (a b : Int32) : NS V (vPath a b V) := ns_if ns_L ns_any
theorem ns_filter (V : BV) (kd n st : Int32) : NS V (vFilter kd n st V) := ns_if ns_L ns_any
theorem ns_step (V : BV) (f x : Int32) : NS V (vStep f x V) := ns_if ns_L ns_any
theorem ns_watch (V : BV) (f a b : Int32) : NS V (vWatch f a b V) := ns_if ns_0 ns_any
theorem ns_begin (V : BV) (f : Int32) : NS V (vBegin f V) := ns_if ns_0 ns_any
theorem ns_feed (V : BV) (x t : Int32) : NS V (vFeed x t V) := ns_if ns_L ns_any
theorem ns_script (V : BV) (a m : Int32) : NS V (vScript a m V) := ns_if ns_L ns_any
theorem ns_weight (V : BV) (f t : Int32) : NS V (vWeight f t V) := fun _ => rfl
theorem ns_of (V : BV) (f w : Int32) : NS V (vOf f w V) := fun _ => rfl
theorem ns_count (V : BV) (f w : Int32) : NS V (vCount f w V) := fun _ => rfl
theorem ns_batch (V : BV) (t : Int32) : NS V (vBatch t V) := fun _ => rfl
theorem ns_square (V : BV) (f r c : Int32) : NS V (vSquare f r c V) := fun _ => rfl
theorem ns_best (V : BV) : NS V (vBest V) := fun _ => rfl
/-- what throws changes nothing -/
theorem ns_act (V : BV) (v : Int32) : NS V (vAct v V) := by
  unfold vAct
  refine ns_if ?_ ?_
  · unfold actO
    exact selV_ns (ns_path _ _ _) (ns_filter _ _ _ _) (ns_step _ _ _) (ns_watch _ _ _ _) (ns_if (ns_begin _ _) (ns_count _ _ _)) (ns_feed _ _ _) (ns_script _ _ _) (ns_weight _ _ _) (ns_of _ _ _) (ns_batch _ _) (ns_square _ _ _ _) (ns_best _) (ns_count _ _ _)
  · unfold actE
    exact selV_ns (ns_path _ _ _) (ns_filter _ _ _ _) (ns_step _ _ _) (ns_watch _ _ _ _) (ns_if (ns_begin _ _) (ns_count _ _ _)) (ns_feed _ _ _) (ns_script _ _ _) (ns_weight _ _ _) (ns_of _ _ _) (ns_batch _ _) (ns_square _ _ _ _) (ns_best _) (ns_count _ _ _)
def c9_0 : CFt := ((fun _ => 0), (fun _ => 0), 0, (fun _ => 0), (fun _ => 0), (fun _ _ => 0), (fun _ _ => 0))
/-- a new bench -/
abbrev u9 : BCt := ((0, 0, 0), ((fun _ => 0), (fun _ => 0), (fun _ => 0), (fun _ => 0)), (fun _ => 0), (fun _ => c9_0), (fun _ => 0))
abbrev V9 : BV := ((fun _ => 0), 0, ((fun _ => 0), (fun _ => 0), (fun _ => 0)), (fun _ => dV 0), dV 0, 0, fun _ => vcF c9_0)
theorem sm9 : small (fun _ => 0) := fun _ _ => (show -1000 ≤ (0 : Int32).toInt ∧ (0 : Int32).toInt ≤ 1000 by decide)
theorem bOk9 : bOk V9 u9 := ⟨rfl, Nat.zero_le _, rfl, ⟨rfl, (show (fun _ : Nat => dV 0) = (fun _ : Nat => dV 0) from rfl), (show dV 0 = dV 0 from rfl), rfl, fun g hg => absurd hg (Nat.not_lt_zero g)⟩, Nat.zero_le _, sm9, fun g hg => absurd hg (Nat.not_lt_zero g), fun g hg => absurd hg (Nat.not_lt_zero g)⟩
theorem xR9 : xRel [] (fun _ => 0) := fun k _ => (show (0 : Int32).toInt = (([].getD k 1000 : Nat) : Int) - 1000 by rw [List.getD_nil]; decide)
theorem GB9 : GB [] [] V9 := by
  refine ⟨fun A h => absurd h List.not_mem_nil, Nat.zero_le _, ?_⟩
  show IB [] [] V9
  exact ⟨trivial, fun w h => absurd h List.not_mem_nil, rfl, rfl, Nat.zero_le _, sm9, sm9, xR9, fb_zero (by decide +kernel), fun g hg => absurd hg (Nat.not_lt_zero g)⟩
def bad9 (o : Nat) (f : Nat → Nat) : Nat → Nat := fun k => if k = 0 then o else if k = 1 then f 0 else if k = 2 then f 6 else f (k - 2)
