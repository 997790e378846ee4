theorem dz_ofc {c0 c1 c2 : Nat} {a b : T3} (ha : ok3 a) (hb : ok3 b) (e0 : c0 = cc a.2.1 a.2.2 b.2.1 b.2.2) (e1 : c1 = cc a.2.2 a.1 b.2.2 b.1) (e2 : c2 = cc a.1 a.2.1 b.1 b.2.1) : ofc c0 c1 c2 = crz (xz a) (xz b) ∧ okc c0 ∧ okc c1 ∧ okc c2 := by
  obtain ⟨k0, l0, m0⟩ := cc_val ha.2.1 ha.2.2 hb.2.1 hb.2.2
  obtain ⟨k1, l1, m1⟩ := cc_val ha.2.2 ha.1 hb.2.2 hb.1
  obtain ⟨k2, l2, m2⟩ := cc_val ha.1 ha.2.1 hb.1 hb.2.1
  rw [← e0] at k0 l0 m0
  rw [← e1] at k1 l1 m1
  rw [← e2] at k2 l2 m2
  refine ⟨?_, ⟨l0, m0⟩, ⟨l1, m1⟩, ⟨l2, m2⟩⟩
  unfold ofc crz xz
  dsimp only
  rw [k0, k1, k2]
  refine Prod.ext ?_ (Prod.ext ?_ ?_) <;> dsimp only <;> grind
theorem y_pack {c0 c1 c2 : Nat} {W : List T3} (h0 : okc c0) (h1 : okc c1) (h2 : okc c2) (hW : ∀ a, a ∈ W → ok3 a) :
    Nat.sub (Nat.add (Nat.add (Nat.mul c0 (pkf (fun a => a.1) W)) (Nat.mul c1 (pkf (fun a => a.2.1) W))) (Nat.add (Nat.mul c2 (pkf (fun a => a.2.2) W)) (Nat.mul 42345693184 (pkf (fun _ => 1) W)))) (Nat.add (Nat.mul 8388608 (Nat.add (pkf (fun a => a.1) W) (Nat.add (pkf (fun a => a.2.1) W) (pkf (fun a => a.2.2) W)))) (Nat.mul (Nat.mul 1000 (Nat.add c0 (Nat.add c1 c2))) (pkf (fun _ => 1) W))) = pkf (yF c0 c1 c2) W := by
  show (c0 * pkf (fun a => a.1) W + c1 * pkf (fun a => a.2.1) W) + (c2 * pkf (fun a => a.2.2) W + 42345693184 * pkf (fun _ => 1) W) - (8388608 * (pkf (fun a => a.1) W + (pkf (fun a => a.2.1) W + pkf (fun a => a.2.2) W)) + 1000 * (c0 + (c1 + c2)) * pkf (fun _ => 1) W) = _
  simp only [pkf_mul, pkf_add]
  rw [pkf_sub]
  · exact pkf_congr fun a _ => by unfold yF; simp only [Nat.mul_one, Nat.add_assoc]
  · intro a ha
    have := (yF_val h0 h1 h2 (hW a ha)).1
    simp only [Nat.mul_one, Nat.add_assoc] at this ⊢
    exact this
theorem chkP_sound {H : Nat} {Dl : List Z3} {W : List T3} {a b : T3} (hW : ∀ a, a ∈ W → ok3 a) (hl : W.length < 16384) (ha : ok3 a) (hb : ok3 b)
    (h : chkP H (pkf (fun a => a.1) W) (pkf (fun a => a.2.1) W) (pkf (fun a => a.2.2) W) (Nat.mul 8388608 (Nat.add (pkf (fun a => a.1) W) (Nat.add (pkf (fun a => a.2.1) W) (pkf (fun a => a.2.2) W)))) (pkf (fun _ => 1) W) (Nat.mul 42345693184 (pkf (fun _ => 1) W)) (Nat.mul 17179869184 (pkf (fun _ => 1) W)) Dl a b = true) :
    W.countP (hq (crz (xz a) (xz b))) ≤ H ∨ (crz (xz a) (xz b) ≠ (0, 0, 0) ∧ ∃ e, e ∈ Dl ∧ crz (crz (xz a) (xz b)) e = (0, 0, 0)) := by
  unfold chkP at h
  rw [fz_eq, fz_eq, fz_eq] at h
  obtain ⟨hp, h0, h1, h2⟩ := dz_ofc ha hb rfl rfl rfl
  rw [← hp]
  generalize cc a.2.1 a.2.2 b.2.1 b.2.2 = c0 at *
  generalize cc a.2.2 a.1 b.2.2 b.1 = c1 at *
  generalize cc a.1 a.2.1 b.1 b.2.1 = c2 at *
  rw [y_pack h0 h1 h2 hW, fz_eq, Bool.or_eq_true] at h
  rcases h with h | h
  · left
    have h3 := Nat.le_of_ble_eq_true h
    have e1 : Nat.mul 17179869184 (pkf (fun _ => 1) W) = pkf (fun _ => 17179869184) W := by
      show 17179869184 * pkf (fun _ => 1) W = _
      rw [pkf_mul]
    rw [e1] at h3
    have h4 := pkf_count (f := yF c0 c1 c2) hl (fun a ha => (yF_val h0 h1 h2 (hW a ha)).2.2.1) (fun a ha => (yF_val h0 h1 h2 (hW a ha)).2.2.2) (H := H) h3
    refine Nat.le_trans (Nat.le_of_eq ?_) h4
    refine List.countP_congr fun a ha => ?_
    have h5 := (yF_val h0 h1 h2 (hW a ha)).2.1
    unfold hq
    rw [decide_eq_true_eq, beq_iff_eq]
    omega
  · right
    unfold inD at h
    rw [Bool.and_eq_true] at h
    obtain ⟨h5, h6⟩ := h
    refine ⟨fun hz => ?_, ?_⟩
    · have z0 : (c0 : Int) - 8388608 = 0 := congrArg (fun z : Z3 => z.1) hz
      have z1 : (c1 : Int) - 8388608 = 0 := congrArg (fun z : Z3 => z.2.1) hz
      have z2 : (c2 : Int) - 8388608 = 0 := congrArg (fun z : Z3 => z.2.2) hz
      have y0 : c0 = 8388608 := by omega
      have y1 : c1 = 8388608 := by omega
      have y2 : c2 = 8388608 := by omega
      rw [y0, y1, y2] at h5
      exact absurd h5 (by decide)
    · obtain ⟨e, he1, he2⟩ := List.any_eq_true.mp h6
      exact ⟨e, he1, of_decide_eq_true he2⟩
theorem chkW_sound {H d : Nat} {Dl : List Z3} {W : List T3} (hW : ∀ a, a ∈ W → ok3 a) (hl : W.length < 16384) (hd : W.length ≤ H * (d + 1)) (hH : H < W.length) (h : chkW H d Dl W = true) {q : Z3} (hq0 : q ≠ (0, 0, 0)) :
    W.countP (hq q) ≤ H ∨ ∃ e, e ∈ Dl ∧ crz q e = (0, 0, 0) := by
  refine Classical.byContradiction fun hc => ?_
  have hn1 : ¬ W.countP (hq q) ≤ H := fun z => hc (Or.inl z)
  have hn2 : ¬ ∃ e, e ∈ Dl ∧ crz q e = (0, 0, 0) := fun z => hc (Or.inr z)
  have hns : ¬ sep (hq q) d W := by
    intro hs
    rcases sep_count (hq q) d W.length W (Nat.le_refl _) hs with h1 | h1
    · omega
    · have : H * (d + 1) ≤ (W.countP (hq q) - 1) * (d + 1) := Nat.mul_le_mul_right _ (by omega)
      omega
  refine hns fun pre a mid b post e hm hab => ?_
  have hA : dz q a = 0 := of_decide_eq_true hab.1
  have hB : dz q b = 0 := of_decide_eq_true hab.2
  have ma : a ∈ W := by rw [e]; simp
  have mb : b ∈ W := by rw [e]; simp
  unfold chkW at h
  simp only [fz_eq] at h
  have h1 := chkAll_at (pre := pre) (a := a) (mid := mid) (b := b) (post := post) (by rw [← e]; exact h) hm
  rw [e] at h1
  rw [← e] at h1
  have hpar := crz_of hA hB
  rcases chkP_sound hW hl (hW a ma) (hW b mb) h1 with h2 | ⟨h2, e2, h3, h4⟩
  · by_cases hz : crz (xz a) (xz b) = (0, 0, 0)
    · rw [hz] at h2
      have : W.countP (hq (0, 0, 0)) = W.length := by
        rw [List.countP_eq_length]
        intro x _
        unfold hq dz
        rw [decide_eq_true_eq]
        simp
      omega
    · rw [par_count hpar hz hq0] at hn1
      exact hn1 h2
  · exact hn2 ⟨e2, h3, crz_trans hpar h4 h2⟩
