/-! ===== every plane has a certificate ===== -/
def hM (m : Nat) : Nat := Nat.sub (Nat.div (Nat.add (Nat.mul 88 m) 7296) 1000) 3
def chkM (T : Nat → Nat → Nat → Nat → T3) (Dl : List Z3) (m : Nat) : Bool := or (Nat.ble m (Nat.add (hM m) 3)) (chkW (hM m) 7 Dl (winL T (orbL m m)))
theorem chk_0 : (List.range 101).all (chkM T0 D0) = true := by decide +kernel
theorem chk_1 : (List.range 101).all (chkM T1 D1) = true := by decide +kernel
theorem chk_2 : (List.range 101).all (chkM T2 D2) = true := by decide +kernel
theorem chk_4 : (List.range 101).all (chkM T4 D4) = true := by decide +kernel
theorem hM_ok : (List.range 101).all (fun m => Nat.ble (m - 3) (hM m * 8)) = true := by decide +kernel
theorem mixF_T (L : List Nat) : mixF fT L + (L.length - 3) ≤ L.length ∧ mixF fT L ≤ 3 := by
  match L with
  | [] => exact ⟨by decide, by decide⟩
  | [_] => exact ⟨by show 1 + (1 - 3) ≤ 1; omega, by show 1 ≤ 3; omega⟩
  | [_, _] => exact ⟨by show 1 + 1 + (2 - 3) ≤ 2; omega, by show 1 + 1 ≤ 3; omega⟩
  | _ :: _ :: _ :: r =>
    refine ⟨?_, by show 1 + 1 + 1 ≤ 3; omega⟩
    show 1 + 1 + 1 + (r.length + 1 + 1 + 1 - 3) ≤ r.length + 1 + 1 + 1
    omega
theorem tot_T (T : Nat → Nat → Nat → Nat → T3) (q : Z3) (L : List Nat) : tot fT T q L ≤ L.length := by
  have h1 := (mixF_T L).1
  have h2 := List.countP_le_length (p := hq q) (l := winL T L)
  rw [winL_len] at h2
  show mixF fT L + (winL T L).countP (hq q) ≤ L.length
  omega
theorem cert_all {T : Nat → Nat → Nat → Nat → T3} (hT : okT T) {Dl : List Z3} (hD : ∀ e, e ∈ Dl → Cert T e ∧ e ≠ (0, 0, 0)) (hc : (List.range 101).all (chkM T Dl) = true) {q : Z3} (hq0 : q ≠ (0, 0, 0)) : ∃ e, Cert T e ∧ ∀ a, hq q a = hq e a := by
  by_cases h : ∃ e, e ∈ Dl ∧ crz q e = (0, 0, 0)
  · obtain ⟨e, h1, h2⟩ := h
    obtain ⟨h3, h4⟩ := hD e h1
    refine ⟨e, h3, fun a => ?_⟩
    unfold hq
    have : (dz q a = 0) = (dz e a = 0) := propext ⟨fun z => crz_dz (crz_swap h2) hq0 a z h4, fun z => crz_dz h2 h4 a z hq0⟩
    simp only [this]
  · refine ⟨q, ?_, fun a => rfl⟩
    rw [List.all_eq_true] at hc
    have hk := hM_ok
    rw [List.all_eq_true] at hk
    refine ⟨8, 88, 7296, fT, fT_ok _ _, fun s _ => ?_, fun m hm => ?_, by decide, by decide, by decide, by decide⟩
    · have := tot_T T q (orbL s 8)
      rw [orbL_len] at this
      exact this
    · have h1 := hc m (List.mem_range.mpr (by omega))
      have h2 := Nat.le_of_ble_eq_true (hk m (List.mem_range.mpr (by omega)))
      have h3 := tot_T T q (orbL m m)
      rw [orbL_len] at h3
      have h4 : hM m = (88 * m + 7296) / 1000 - 3 := rfl
      unfold chkM at h1
      rw [Bool.or_eq_true] at h1
      rcases h1 with h1 | h1
      · have h5 : m ≤ hM m + 3 := Nat.le_of_ble_eq_true h1
        omega
      · by_cases h6 : m ≤ hM m + 3
        · omega
        · have hlen : (winL T (orbL m m)).length = m - 3 := by rw [winL_len, orbL_len]
          rcases chkW_sound (winL_ok hT _ (orbL_le m m)) (by rw [hlen]; omega) (by rw [hlen]; exact h2) (by rw [hlen]; omega) h1 hq0 with h7 | h7
          · have h8 := (mixF_T (orbL m m)).2
            show 1000 * (mixF fT (orbL m m) + (winL T (orbL m m)).countP (hq q)) ≤ _
            omega
          · exact absurd h7 h
