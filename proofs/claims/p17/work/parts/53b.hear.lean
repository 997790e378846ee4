/-! ===== what hear leaves is good again ===== -/
theorem les_nn {kd th : Int32} {er : Dt} {x : Int32} {n : Nat} {xi : Nat → Int32} (hth : 1 ≤ th ∧ th ≤ 2000) (he : fb 100000000000000 er) (hx1 : -1000 ≤ x.toInt ∧ x.toInt ≤ 1000) (hx : small xi) (hn : n ≤ 8) : sLesM kd th er (fI x) (sNorm n xi) ≠ .nan := by
  have h1 := th_fb hth
  have h2 := (mul_fb h1 he (by decide +kernel)).mono (show _ ≤ (10000000000000000 : Rat) by decide +kernel)
  have h3 := (fI_fb hx1 : fb ((1000 : Int) : Rat) (fI x))
  have h4 := (mul_fb h2 h3 (by decide +kernel)).mono (show _ ≤ (100000000000000000000 : Rat) by decide +kernel)
  have h5 := (mul_fb h1 h3 (by decide +kernel)).mono (show _ ≤ (100000 : Rat) by decide +kernel)
  unfold sLesM
  split
  · exact h4.1.nn
  · split
    · obtain ⟨b, z, e1, e2, e3, -⟩ := norm_int hx n hn
      obtain ⟨n1, n2⟩ := whole_val (d := dV b) e2
      rw [e1] at n1 n2
      have hz : (1 : Rat) ≤ rv (sNorm n xi) := by
        rw [n2]
        exact Rat.intCast_le_intCast.mpr e3
      exact (div_fb h4 n1 (Rat.le_refl) hz (by decide +kernel)).1.nn
    · split
      · exact h5.1.nn
      · split
        · exact (sub_fb (fb_zero (B := 1) (by decide +kernel)) h5 (by decide +kernel)).1.nn
        · exact c_zero.1.nn
theorem Reach_congr {n : Nat} {P Q : Nat → Nat → Dt} (h : ∀ a c, a < n → c < n → P a c = Q a c) : ∀ ws, Reach n ws P → Reach n ws Q := by
  intro ws
  induction ws generalizing P Q with
  | nil => intro hP a c ha hc; rw [← h a c ha hc]; exact hP a c ha hc
  | cons w ws ih =>
    intro hP
    rcases hP with hP | hP | ⟨mu, R, h1, h2, h3⟩
    · exact Or.inl fun a c ha hc => by rw [← h a c ha hc]; exact hP a c ha hc
    · exact Or.inr (Or.inl (ih h hP))
    · exact Or.inr (Or.inr ⟨mu, R, h1, h2, fun a c ha hc => by rw [← h a c ha hc]; exact h3 a c ha hc⟩)
theorem Reach_fresh {n : Nat} {P : Nat → Nat → Dt} (h : fresh n P) (ws : List (Nat → Int32)) : Reach n ws P := by
  cases ws with
  | nil => exact h
  | cons w ws => exact Or.inl h
/-- a filter whose doubles are numbers within bounds, whose square the samples ws may have made -/
def GF (ws : List (Nat → Int32)) (mi : Dt) (v : FV) : Prop :=
  stpB v.1.1 v.1.2.2.1 ∧ (0 ≤ v.1.2.2.2.2 ∧ v.1.2.2.2.2 ≤ 20) ∧ (0 ≤ v.2.1.1 ∧ v.2.1.1 ≤ 20) ∧
  (∃ n, v.1.2.1 = nI n ∧ 1 ≤ n ∧ n ≤ 8 ∧ (v.1.1 = 3 → n ≤ 4 ∧ Reach n ws v.2.2.2.2.2) ∧ ∀ j, j < n → fb 1000000000 (v.2.2.2.1 j)) ∧
  (∃ tt h r, v.2.1.2.1 = nI tt ∧ v.2.1.2.2.1 = nI h ∧ v.2.1.2.2.2 = nI r ∧ h ≤ tt ∧ r ≤ tt ∧ tt ≤ ws.length) ∧
  fb 100000000000000 v.2.2.1.1 ∧ fb 100000000000000 v.2.2.1.2 ∧ (∀ j, j < 16 → fb 100000000000000 (v.2.2.2.2.1 j)) ∧
  ((v.2.1.2.1 = 0 ∧ v.2.2.1.1 = dV 0 ∧ v.2.2.1.2 = dV 0) ∨ (¬ v.2.1.2.1 = 0 ∧ v.2.2.1.2 = fSub mi v.2.2.1.1))
theorem nI_s (k : Nat) : nI k + 1 = nI (k + 1) := (nI_succ k).symm
theorem lf_step {lf : Int32} (h : 0 ≤ lf ∧ lf ≤ 20) (h0 : 0 < lf) : 0 ≤ lf - 1 ∧ lf - 1 ≤ 20 := by
  refine ⟨dec_lf h0, ?_⟩
  obtain ⟨j, hj, rfl⟩ := nI_of (Int32.not_lt.mpr h.1)
  have h1 : j ≤ 20 := (nI_leI (b := 20) hj (by decide)).mp h.2
  have h2 : 0 < j := (nI_ltI (a := 0) (by decide) hj).mp h0
  rw [nI_pm h2]
  exact nI_le (b := 20) (by omega) (by decide)
theorem okX_small {n : Nat} (hn : n ≤ 8) {w : Nat → Int32} (h : small w) : okX n w := fun k hk => small_x h (by omega)
theorem okW_small {w : Nat → Int32} (h : small w) : okW w := fun k hk => small_x h (by omega)
theorem GF_hear {ws : List (Nat → Int32)} {w : Nat → Int32} {mi mj : Dt} {v : FV} (h : GF ws mi v) (hx : small w) (hw : ∀ x, x ∈ ws → okW x) (hB : HB (w :: ws)) (hm : fb 1000000 mj) (hl : ws.length < 2000) : GF (w :: ws) mj (hearM w mj v) := by
  obtain ⟨g1, g2, g3, ⟨n, gn, gn1, gn8, gP, gw⟩, ⟨tt, hh, rr, gt, gh, gr, gle1, gle2, gle3⟩, g6, g7, g8, g9⟩ := h
  have hN : hmN v = n := by unfold hmN; rw [gn]; exact tn_nI (by omega)
  have hO : fb 100000000000000 (hmOut w v) := by
    unfold hmOut
    rw [hN]
    exact (out_fb gn8 hx gw).mono (by decide +kernel)
  have hE : fb 100000000000000 (hmErr w mj v) := by
    unfold hmErr hmOut
    rw [hN]
    exact (sub_fb hm (out_fb gn8 hx gw) (by decide +kernel)).mono (by decide +kernel)
  subst hN
  refine ⟨g1, g2, ?_, ⟨hmN v, gn, gn1, gn8, ?_, ?_⟩, ?_, hO, hE, ?_, Or.inr ⟨?_, rfl⟩⟩
  · show 0 ≤ (if sLoudM v.1.2.2.2.1 (hmN v) w mj then v.1.2.2.2.2 else if 0 < v.2.1.1 then v.2.1.1 - 1 else 0) ∧ (if sLoudM v.1.2.2.2.1 (hmN v) w mj then v.1.2.2.2.2 else if 0 < v.2.1.1 then v.2.1.1 - 1 else 0) ≤ 20
    split
    · exact g2
    · split
      · rename_i h0; exact lf_step g3 h0
      · decide
  · intro hk0
    have hk : v.1.1 = 3 := hk0
    obtain ⟨k1, k2⟩ := gP hk
    refine ⟨k1, ?_⟩
    show Reach (hmN v) (w :: ws) (cutP (v.1.1 = 3) (hmN v) (fun a c => if hmLearnsP w mj v then rP (hmN v) (hmMu v) v.2.2.2.2.2 w a c else v.2.2.2.2.2 a c))
    by_cases hL : hmLearnsP w mj v
    · refine Or.inr (Or.inr ⟨hmMu v, v.2.2.2.2.2, ?_, k2, fun a c ha hc => ?_⟩)
      · have hs : 500 ≤ v.1.2.2.1 ∧ v.1.2.2.1 ≤ 1000 := sq_range g1 hk
        exact mu_ok hs
      · rw [cutP_at hk ha hc, if_pos hL]
    · refine Or.inr (Or.inl (Reach_congr (fun a c ha hc => ?_) ws k2))
      rw [cutP_at hk ha hc, if_neg hL]
  · intro j hj
    show fb 1000000000 (cutN (hmN v) (fun j => if hmHold' w mj v then v.2.2.2.1 j else if v.1.1 = 3 then rW (hmN v) (hmMu v) (hmErr w mj v) v.2.2.2.2.2 w (v.2.2.2.1 j) j else sUp (v.2.2.2.1 j) (sLesM v.1.1 v.1.2.2.1 (hmErr w mj v) (fI (w j)) (sNorm (hmN v) w))) j)
    rw [cutN_at hj]
    split
    · exact gw j hj
    · split
      · rename_i hk
        obtain ⟨k1, k2⟩ := gP hk
        unfold rW
        split
        · exact gw j hj
        · rename_i hlow
          have hs : 500 ≤ v.1.2.2.1 ∧ v.1.2.2.1 ≤ 1000 := sq_range g1 hk
          obtain ⟨o1, -⟩ := reach_ok k1 ws _ hw hB.tail k2
          have z := zp_980b
          obtain ⟨-, hK⟩ := rls_k k1 o1.1 (by grind) Rat.le_refl (okX_small gn8 hx) (mu_ok hs) hlow
          exact up_fb (gw j hj).1 (nn_mul (hK j hj).1 hE.1)
      · rename_i hk
        have hth : 1 ≤ v.1.2.2.1 ∧ v.1.2.2.1 ≤ 2000 := by
          rcases g1 with z | z
          · exact absurd z.1 hk
          · exact z.2
        exact up_fb (gw j hj).1 (les_nn hth hE (hx j (by omega)) hx gn8)
  · refine ⟨tt + 1, if hmHold' w mj v then hh + 1 else hh, if hmLearnsP w mj v ∧ rRes (hmN v) (hmMu v) v.2.2.2.2.2 w = true then rr + 1 else rr, ?_, ?_, ?_, ?_, ?_, ?_⟩
    · show v.2.1.2.1 + 1 = _
      rw [gt]; exact nI_s tt
    · show (if hmHold' w mj v then v.2.1.2.2.1 + 1 else v.2.1.2.2.1) = _
      rw [gh]
      split
      · exact nI_s hh
      · rfl
    · show (if hmLearnsP w mj v ∧ rRes (hmN v) (hmMu v) v.2.2.2.2.2 w = true then v.2.1.2.2.2 + 1 else v.2.1.2.2.2) = _
      rw [gr]
      split
      · exact nI_s rr
      · rfl
    · split <;> omega
    · split <;> omega
    · show tt + 1 ≤ ws.length + 1
      omega
  · intro j hj
    show fb 100000000000000 (cutN 16 (fun j => if j = tn v.2.1.2.1 % 16 then hmErr w mj v else v.2.2.2.2.1 j) j)
    rw [cutN_at hj]
    split
    · exact hE
    · exact g8 j hj
  · show ¬ v.2.1.2.1 + 1 = 0
    rw [gt, nI_s]
    exact nI_ne (a := tt + 1) (b := 0) (by omega) (by decide) (by omega)
theorem GF_step {ws : List (Nat → Int32)} {mi : Dt} {v : FV} {x : Int32} (h : GF ws mi v) (hs : stpB v.1.1 x) : GF ws mi ((v.1.1, v.1.2.1, x, v.1.2.2.2.1, v.1.2.2.2.2), v.2) := ⟨hs, h.2⟩
theorem GF_watch {ws : List (Nat → Int32)} {mi : Dt} {v : FV} {a b : Int32} (h : GF ws mi v) (hb : 0 ≤ b ∧ b ≤ 20) : GF ws mi ((v.1.1, v.1.2.1, v.1.2.2.1, a, b), v.2) := ⟨h.1, hb, h.2.2⟩
theorem GF_begin {ws : List (Nat → Int32)} {mi : Dt} {v : FV} (h : GF ws mi v) : GF ws mi (beginV v) := by
  obtain ⟨g1, g2, g3, ⟨n, gn, gn1, gn8, gP, gw⟩, -, -, -, g8, -⟩ := h
  have hn : tn v.1.2.1 = n := by rw [gn]; exact tn_nI (by omega)
  refine ⟨g1, g2, (by decide : (0 : Int32) ≤ 0 ∧ (0 : Int32) ≤ 20), ⟨n, gn, gn1, gn8, fun hk => ⟨(gP hk).1, ?_⟩, fun j hj => ?_⟩, ⟨0, 0, 0, rfl, rfl, rfl, by omega, by omega, by omega⟩, fb_zero (by decide +kernel), fb_zero (by decide +kernel), g8, Or.inl ⟨rfl, rfl, rfl⟩⟩
  · refine Reach_fresh (fun a c ha hc => ?_) ws
    show cutP (v.1.1 = 3) (tn v.1.2.1) (fun a c => if a = c then dV H100 else dV 0) a c = _
    rw [hn]
    exact cutP_at hk ha hc
  · show fb 1000000000 (cutN (tn v.1.2.1) (fun _ => dV 0) j)
    rw [hn, cutN_at hj]
    exact fb_zero (by decide +kernel)
theorem GF_fresh {kd st : Int32} {n : Nat} (ws : List (Nat → Int32)) (mi : Dt) (h1 : 1 ≤ n) (h8 : n ≤ 8) (h4 : kd = 3 → n ≤ 4) (hs : stpB kd st) : GF ws mi (freshFV kd n st) := by
  refine ⟨hs, (by decide : (0 : Int32) ≤ 0 ∧ (0 : Int32) ≤ 20), (by decide : (0 : Int32) ≤ 0 ∧ (0 : Int32) ≤ 20), ⟨n, rfl, h1, h8, fun hk => ⟨h4 hk, ?_⟩, fun j hj => ?_⟩, ⟨0, 0, 0, rfl, rfl, rfl, by omega, by omega, by omega⟩, fb_zero (by decide +kernel), fb_zero (by decide +kernel), fun j hj => ?_, Or.inl ⟨rfl, rfl, rfl⟩⟩
  · refine Reach_fresh (fun a c ha hc => ?_) ws
    show cutP (kd = 3) n (fun a c => if a = c then dV H100 else dV 0) a c = _
    exact cutP_at hk ha hc
  · show fb 1000000000 (cutN n (fun _ => dV 0) j)
    rw [cutN_at hj]
    exact fb_zero (by decide +kernel)
  · show fb 100000000000000 (cutN 16 (fun _ => dV 0) j)
    rw [cutN_at hj]
    exact fb_zero (by decide +kernel)
