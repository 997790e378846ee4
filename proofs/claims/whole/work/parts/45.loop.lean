/-! ===== the law's loop, whole ===== -/
theorem and15 (v : Int32) : ∃ k, k < 16 ∧ v &&& 15 = nI k := by
  refine ⟨(v &&& 15).toBitVec.toNat, ?_, ?_⟩
  · have h : (v &&& 15).toBitVec.toNat = v.toBitVec.toNat &&& 15 := by
      show (v.toBitVec &&& (15 : Int32).toBitVec).toNat = _
      rw [BitVec.toNat_and]; rfl
    rw [h]; exact Nat.lt_of_le_of_lt Nat.and_le_right (by decide)
  · apply Int32.toBitVec.inj
    show _ = BitVec.ofNat 32 _
    rw [BitVec.ofNat_toNat, BitVec.setWidth_eq]
theorem head_lt {L i : Nat} (hL : L ≤ 2048) (hi : i ≤ 4096) : nI L - 4 < nI i ↔ L < i + 4 := by
  by_cases h : 4 ≤ L
  · rw [show nI L - 4 = nI (L - 4) from nI_sub (b := 4) h (by omega), nI_ltI (by omega) (by omega)]
    omega
  · refine ⟨fun _ => by omega, fun _ => ?_⟩
    have h0 : nI 0 ≤ nI i := nI_le (Nat.zero_le i) (by omega)
    rcases (show L = 0 ∨ L = 1 ∨ L = 2 ∨ L = 3 by omega) with rfl | rfl | rfl | rfl <;> exact Int32.lt_of_lt_of_le (by decide) h0
set_option maxHeartbeats 4000000 in
set_option maxRecDepth 100000 in
theorem law_foot {RF : FV → FV → Prop} {p : Program} {l : Launch} {e : Env} {s : State} {m : MethodId} {below : List Frame} {meth : Method} {c : Code} {G : va_G} {q : Nat → ClassId} {A : Nat → Prop} {b o3 o1 af a1 ax b0 b1 b2 ol od om : Nat} {am : Nat → Nat} {L : Nat} {xs : Nat → Int32} {i kc ks : Nat} (hfix : LFix p l s m meth c G q A b L xs) (kk : LK RF p l e s m below meth c G q A b o3 o1 af a1 ax b0 b1 b2 ol od om am 28 (i + 4) kc ks) : LK RF p l e s m below meth c G q A b o3 o1 af a1 ax b0 b1 b2 ol od om am 1042 i kc ks := by
  obtain ⟨hx, hb, hr, hml, hown, hts, hX, hbl, hbA, hlocks, hK, hNF, hNT, hNC, hst, hA, hL⟩ := hfix
  intro nf tk mi pa xi z0 z1 fm C oa th mi2 fm2 gg I D fl fd H locs d0 ls hI hd0 hP hD hS hl
  refine lv_iinc (v := nI (i + 4)) (lv' := [(5, .int (nI (i + 4))), (0, .ref b), (1, .ref o3), (2, .ref om), (3, .ref ol), (4, .ref od)]) hx hb dL_law_1042 hl (k := 5) rfl (by rw [← nI_add i 4]; rfl) (by decide) rfl (fun ls hl => ?_)
  refine lv_goto (tgt := 28) hx hb dL_law_1045 (by decide) ?_
  exact kk nf tk mi pa xi z0 z1 fm C oa th mi2 fm2 gg I D fl fd H locs d0 ls hI hd0 hP hD hS (lv_sub hl [1, 2, 3, 4, 5, 0] rfl)
set_option maxHeartbeats 4000000 in
set_option maxRecDepth 100000 in
theorem law_exit {RF : FV → FV → Prop} {p : Program} {l : Launch} {e : Env} {s : State} {m : MethodId} {below : List Frame} {meth : Method} {c : Code} {G : va_G} {q : Nat → ClassId} {A : Nat → Prop} {b o3 o1 af a1 ax b0 b1 b2 ol od om : Nat} {am : Nat → Nat} {L : Nat} {xs : Nat → Int32} {i kc ks : Nat} (hfix : LFix p l s m meth c G q A b L xs) (hA2 : ∀ q, A q → s.heap.size ≤ q) (hi : L < i + 4) (hi2 : i ≤ 4096) (hkc : kc ≤ 601024) (hks : ks ≤ 7293034) : LK RF p l e s m below meth c G q A b o3 o1 af a1 ax b0 b1 b2 ol od om am 28 i kc ks := by
  obtain ⟨hx, hb, hr, hml, hown, hts, hX, hbl, hbA, hlocks, hK, hNF, hNT, hNC, hst, hA, hL⟩ := hfix
  intro nf tk mi pa xi z0 z1 fm C oa th mi2 fm2 gg I D fl fd H locs d0 ls hI hd0 hP hD hS hl
  refine lv_iload hx hb dL_law_28 (lv_at hl 5 rfl) ?_
  refine lv_aload_n hx hb dL_law_30 rfl (lv_at hl 0 rfl) ?_
  refine va_slen hx hb hX hbl hbA hS dL_law_31 ?_
  refine lv_iconst (v := 4) hx hb dL_law_32 (by decide) ?_
  refine lv_isub hx hb dL_law_33 ?_
  refine lv_icmp_gt (tgt := 1048) hx hb dL_law_34 (by decide) (fun _ => ?_) (fun z => absurd ((head_lt hL hi2).mpr hi) z)
  refine lv_iconst (v := 1) hx hb dL_law_1048 (by decide) ?_
  refine va_forget (fun q hq => hA2 _ (hS.2.2 q hq)) ?_
  refine W.widen (k := 601024) (n := 7293034) hkc hks ?_
  exact lw_ret hd0 hx hb hr hlocks dL_law_1049
set_option maxHeartbeats 4000000 in
set_option maxRecDepth 100000 in
theorem law_body {hc : HF} {RF RG : FV → FV → Prop} {p : Program} {l : Launch} {e : Env} {s : State} {m : MethodId} {below : List Frame} {meth : Method} {c : Code} {G : va_G} {q : Nat → ClassId} {A : Nat → Prop} {b o3 o1 af a1 ax b0 b1 b2 ol od om : Nat} {am : Nat → Nat} {L : Nat} {xs : Nat → Int32} {i kc ks : Nat} (hfix : LFix p l s m meth c G q A b L xs) (hRF : RFok hc RF RG) (hH : HearC l hc) (hEq : ∀ v w, RF v w → v = w) (hi : i + 3 < L) (hkc : kc + 11 ≤ 601024) (hks : ks + 73 ≤ 7293034) (kk : LK RG p l e s m below meth c G q A b o3 o1 af a1 ax b0 b1 b2 ol od om am 1042 i (kc + 11) (ks + 73)) : LK RF p l e s m below meth c G q A b o3 o1 af a1 ax b0 b1 b2 ol od om am 28 i kc ks := by
  have hfix0 := hfix
  obtain ⟨hx, hb, hr, hml, hown, hts, hX, hbl, hbA, hlocks, hK, hNF, hNT, hNC, hst, hA, hL⟩ := hfix
  intro nf tk mi pa xi z0 z1 fm C oa th mi2 fm2 gg I D fl fd H locs d0 ls hI hd0 hP hD hS hl
  refine lv_iload hx hb dL_law_28 (lv_at hl 5 rfl) ?_
  refine lv_aload_n hx hb dL_law_30 rfl (lv_at hl 0 rfl) ?_
  refine va_slen hx hb hX hbl hbA hS dL_law_31 ?_
  refine lv_iconst (v := 4) hx hb dL_law_32 (by decide) ?_
  refine lv_isub hx hb dL_law_33 ?_
  refine lv_icmp_gt (tgt := 1048) hx hb dL_law_34 (by decide) (fun z => absurd ((head_lt hL (by omega)).mp z) (by omega)) (fun _ => ?_)
  obtain ⟨v0, hv0⟩ : ∃ z, xs i = z := ⟨_, rfl⟩
  refine lv_aload_n hx hb dL_law_37 rfl (lv_at hl 0 rfl) ?_
  refine lv_iload hx hb dL_law_38 (lv_at hl 5 rfl) ?_
  refine va_sldJ (s := s.setDrawn d0) hx hb hX hbl hbA hS (j := i) (by omega) hL hv0 dL_law_40 ?_
  refine lv_bipush (v := 15) hx hb dL_law_41 (by decide) ?_
  refine lv_iand hx hb dL_law_43 ?_
  obtain ⟨k, hk, hkv⟩ := and15 v0
  rw [hkv]
  rcases (show k = 0 ∨ k = 1 ∨ k = 2 ∨ k = 3 ∨ k = 4 ∨ k = 5 ∨ k = 6 ∨ k = 7 ∨ k = 8 ∨ k = 9 ∨ k = 10 ∨ k = 11 ∨ k = 12 ∨ k = 13 ∨ 14 ≤ k by omega) with rfl | rfl | rfl | rfl | rfl | rfl | rfl | rfl | rfl | rfl | rfl | rfl | rfl | rfl | hk14
  · refine lv_tableIn (off := 72) (tgt := 116) hx hb dL_law_44 (by decide) (by decide) (by decide) (by decide) ?_
    exact case_path hfix0 hRF hi hkc hks kk nf tk mi pa xi z0 z1 fm C oa th mi2 fm2 gg I D fl fd H locs d0 ls hI hd0 hP hD hS hl
  · refine lv_tableIn (off := 140) (tgt := 184) hx hb dL_law_44 (by decide) (by decide) (by decide) (by decide) ?_
    exact case_filter hfix0 hRF hi hkc hks kk nf tk mi pa xi z0 z1 fm C oa th mi2 fm2 gg I D fl fd H locs d0 ls hI hd0 hP hD hS hl
  · refine lv_tableIn (off := 220) (tgt := 264) hx hb dL_law_44 (by decide) (by decide) (by decide) (by decide) ?_
    exact case_step hfix0 hRF hi hkc hks kk nf tk mi pa xi z0 z1 fm C oa th mi2 fm2 gg I D fl fd H locs d0 ls hI hd0 hP hD hS hl
  · refine lv_tableIn (off := 288) (tgt := 332) hx hb dL_law_44 (by decide) (by decide) (by decide) (by decide) ?_
    exact case_watch hfix0 hRF hi hkc hks kk nf tk mi pa xi z0 z1 fm C oa th mi2 fm2 gg I D fl fd H locs d0 ls hI hd0 hP hD hS hl
  · refine lv_tableIn (off := 348) (tgt := 392) hx hb dL_law_44 (by decide) (by decide) (by decide) (by decide) ?_
    exact case_begin hfix0 hRF hi hkc hks kk nf tk mi pa xi z0 z1 fm C oa th mi2 fm2 gg I D fl fd H locs d0 ls hI hd0 hP hD hS hl
  · refine lv_tableIn (off := 384) (tgt := 428) hx hb dL_law_44 (by decide) (by decide) (by decide) (by decide) ?_
    exact case_feed hfix0 hRF hH hi hkc hks kk nf tk mi pa xi z0 z1 fm C oa th mi2 fm2 gg I D fl fd H locs d0 ls hI hd0 hP hD hS hl
  · refine lv_tableIn (off := 452) (tgt := 496) hx hb dL_law_44 (by decide) (by decide) (by decide) (by decide) ?_
    exact case_script hfix0 hRF hH hi hkc hks kk nf tk mi pa xi z0 z1 fm C oa th mi2 fm2 gg I D fl fd H locs d0 ls hI hd0 hP hD hS hl
  · refine lv_tableIn (off := 520) (tgt := 564) hx hb dL_law_44 (by decide) (by decide) (by decide) (by decide) ?_
    exact case_weight hfix0 hRF hEq hi hkc hks kk nf tk mi pa xi z0 z1 fm C oa th mi2 fm2 gg I D fl fd H locs d0 ls hI hd0 hP hD hS hl
  · refine lv_tableIn (off := 609) (tgt := 653) hx hb dL_law_44 (by decide) (by decide) (by decide) (by decide) ?_
    exact case_of hfix0 hRF hEq hi hkc hks kk nf tk mi pa xi z0 z1 fm C oa th mi2 fm2 gg I D fl fd H locs d0 ls hI hd0 hP hD hS hl
  · refine lv_tableIn (off := 698) (tgt := 742) hx hb dL_law_44 (by decide) (by decide) (by decide) (by decide) ?_
    exact case_count hfix0 hRF hEq hi hkc hks kk nf tk mi pa xi z0 z1 fm C oa th mi2 fm2 gg I D fl fd H locs d0 ls hI hd0 hP hD hS hl
  · refine lv_tableIn (off := 766) (tgt := 810) hx hb dL_law_44 (by decide) (by decide) (by decide) (by decide) ?_
    exact case_microphone hfix0 hRF hi hkc hks kk nf tk mi pa xi z0 z1 fm C oa th mi2 fm2 gg I D fl fd H locs d0 ls hI hd0 hP hD hS hl
  · refine lv_tableIn (off := 807) (tgt := 851) hx hb dL_law_44 (by decide) (by decide) (by decide) (by decide) ?_
    exact case_batch hfix0 hRF hi hkc hks kk nf tk mi pa xi z0 z1 fm C oa th mi2 fm2 gg I D fl fd H locs d0 ls hI hd0 hP hD hS hl
  · refine lv_tableIn (off := 884) (tgt := 928) hx hb dL_law_44 (by decide) (by decide) (by decide) (by decide) ?_
    exact case_square hfix0 hRF hEq hi hkc hks kk nf tk mi pa xi z0 z1 fm C oa th mi2 fm2 gg I D fl fd H locs d0 ls hI hd0 hP hD hS hl
  · refine lv_tableIn (off := 985) (tgt := 1029) hx hb dL_law_44 (by decide) (by decide) (by decide) (by decide) ?_
    exact case_best hfix0 hRF hEq hi hkc hks kk nf tk mi pa xi z0 z1 fm C oa th mi2 fm2 gg I D fl fd H locs d0 ls hI hd0 hP hD hS hl
  · refine lv_tableOut (tgt := 1042) hx hb dL_law_44 (by right; rcases (show k = 14 ∨ k = 15 by omega) with rfl | rfl <;> decide) (by decide) ?_
    refine W.widen (k := kc + 11) (n := ks + 73) (by omega) (by omega) ?_
    exact kk nf tk mi pa xi z0 z1 fm C oa th mi2 fm2 gg I D fl fd H locs d0 ls (hI.up hRF.up) hd0 hP hD hS hl
set_option maxHeartbeats 4000000 in
set_option maxRecDepth 100000 in
theorem law_loop {hc : HF} {RF : FV → FV → Prop} {p : Program} {l : Launch} {e : Env} {s : State} {m : MethodId} {below : List Frame} {meth : Method} {c : Code} {G : va_G} {q : Nat → ClassId} {A : Nat → Prop} {b o3 o1 af a1 ax b0 b1 b2 ol od om : Nat} {am : Nat → Nat} {L : Nat} {xs : Nat → Int32} (hfix : LFix p l s m meth c G q A b L xs) (hRF : RFok hc RF RF) (hA2 : ∀ q, A q → s.heap.size ≤ q) (hH : HearC l hc) (hEq : ∀ v w, RF v w → v = w) : ∀ k i kc ks, L ≤ i + 4 * k → i ≤ 2052 → kc + 11 * k ≤ 601024 → ks + 73 * k ≤ 7293034 → LK RF p l e s m below meth c G q A b o3 o1 af a1 ax b0 b1 b2 ol od om am 28 i kc ks := by
  have hL : L ≤ 2048 := hfix.2.2.2.2.2.2.2.2.2.2.2.2.2.2.2.2
  intro k
  induction k with
  | zero => exact fun i kc ks h1 h2 h3 h4 => law_exit hfix hA2 (by omega) (by omega) (by omega) (by omega)
  | succ k ih =>
    intro i kc ks h1 h2 h3 h4
    by_cases hi : i + 3 < L
    · exact law_body hfix hRF hH hEq hi (by omega) (by omega) (law_foot hfix (ih (i + 4) (kc + 11) (ks + 73) (by omega) (by omega) (by omega) (by omega)))
    · exact law_exit hfix hA2 (by omega) (by omega) (by omega) (by omega)
