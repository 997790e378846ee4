/-! ===== cells in any order; a contract beside cells that it does not know ===== -/
theorem vD_nd {A : Nat → Prop} {W : va_W} (h : va_D A W) : (W.map Prod.fst).Nodup := by
  unfold List.Nodup
  rw [List.pairwise_iff_getElem]
  intro i j hi hj hij he
  have hi' : i < W.length := by simpa using hi
  have hj' : j < W.length := by simpa using hj
  rw [List.getElem_map, List.getElem_map] at he
  have := h.1 i j W[i] W[j] (List.getElem?_eq_getElem hi') (List.getElem?_eq_getElem hj') he
  omega
theorem vD_of {A : Nat → Prop} {W : va_W} (hn : (W.map Prod.fst).Nodup) (ha : ∀ x ∈ W, A x.1) : va_D A W := by
  refine ⟨fun i j x y hx hy he => ?_, fun k x hk => ha x (List.mem_of_getElem? hk)⟩
  obtain ⟨hi, rfl⟩ := List.getElem?_eq_some_iff.mp hx
  obtain ⟨hj, rfl⟩ := List.getElem?_eq_some_iff.mp hy
  have hi' : i < (W.map Prod.fst).length := by simpa using hi
  have hj' : j < (W.map Prod.fst).length := by simpa using hj
  unfold List.Nodup at hn
  rw [List.pairwise_iff_getElem] at hn
  rcases Nat.lt_trichotomy i j with h | h | h
  · exact absurd (by rw [List.getElem_map, List.getElem_map]; exact he) (hn i j hi' hj' h)
  · exact h
  · exact absurd (by rw [List.getElem_map, List.getElem_map]; exact he.symm) (hn j i hj' hi' h)
theorem vD_all {A : Nat → Prop} {W : va_W} (h : va_D A W) : ∀ x ∈ W, A x.1 := by
  intro x hx
  obtain ⟨k, hk⟩ := List.getElem?_of_mem hx
  exact h.2 k x hk
theorem vP_all {G : va_G} {cl : List vw_C} {W : va_W} {H : Heap} (h : va_P G cl W H) : ∀ x ∈ W, va_at G cl x H := by
  intro x hx
  obtain ⟨k, hk⟩ := List.getElem?_of_mem hx
  exact h k x hk
theorem vP_of {G : va_G} {cl : List vw_C} {W : va_W} {H : Heap} (h : ∀ x ∈ W, va_at G cl x H) : va_P G cl W H := fun _ x hk => h x (List.mem_of_getElem? hk)
theorem vP_perm {G : va_G} {cl : List vw_C} {V W : va_W} {H : Heap} (h : va_P G cl V H) (hp : V.Perm W) : va_P G cl W H := vP_of fun x hx => vP_all h x (hp.mem_iff.mpr hx)
theorem vD_perm {A : Nat → Prop} {V W : va_W} (h : va_D A V) (hp : V.Perm W) : va_D A W := vD_of ((hp.map Prod.fst).nodup_iff.mp (vD_nd h)) fun x hx => vD_all h x (hp.mem_iff.mpr hx)
theorem vA_of {W : va_W} {sz q : Nat} (h : va_A W sz q) : (∃ x ∈ W, x.1 = q) ∨ sz ≤ q := by
  rcases h with ⟨k, e, h⟩ | h
  · exact Or.inl ⟨_, List.mem_of_getElem? h, rfl⟩
  · exact Or.inr h
theorem vA_in {W : va_W} {sz q : Nat} (h : (∃ x ∈ W, x.1 = q) ∨ sz ≤ q) : va_A W sz q := by
  rcases h with ⟨x, hx, rfl⟩ | h
  · obtain ⟨k, hk⟩ := List.getElem?_of_mem hx
    exact Or.inl ⟨k, x.2, hk⟩
  · exact Or.inr h
theorem vA_sub {V W : va_W} {sz q : Nat} (h : ∀ x ∈ W, x ∈ V) (ha : va_A W sz q) : va_A V sz q := by
  rcases vA_of ha with ⟨x, hx, e⟩ | h1
  · exact vA_in (Or.inl ⟨x, h x hx, e⟩)
  · exact vA_in (Or.inr h1)
theorem fr_core {G : va_G} {V wc wr w1 : va_W} {U t : State} {sz : Nat} (hp : V.Perm (wc ++ wr)) (hP : va_P G vwCl V U.heap) (hD : va_D (fun _ => True) V) (hsz : U.heap.size = sz)
    (hE : EndA G (va_A wc sz) w1 t) (hF : va_F (va_A wc sz) U t) : EndA G (va_A V sz) (w1 ++ wr) t ∧ va_F (va_A V sz) U t := by
  have hsub : ∀ q, va_A wc sz q → va_A V sz q := fun q h => vA_sub (fun x hx => hp.mem_iff.mpr (List.mem_append_left _ hx)) h
  have hnd := vD_nd (vD_perm hD hp)
  rw [List.map_append, List.nodup_append] at hnd
  have hin : ∀ x ∈ wr, x ∈ V := fun x hx => hp.mem_iff.mpr (List.mem_append_right _ hx)
  have apart : ∀ x ∈ wr, x.1 < U.heap.size ∧ ¬ va_A wc sz x.1 := by
    intro x hx
    have hl := (vP_all hP x (hin x hx)).lt
    refine ⟨hl, fun h => ?_⟩
    rcases vA_of h with ⟨y, hy, e⟩ | h
    · exact hnd.2.2 _ (List.mem_map.mpr ⟨y, hy, rfl⟩) _ (List.mem_map.mpr ⟨x, hx, rfl⟩) e
    · omega
  refine ⟨⟨hE.1.app (vP_of fun x hx => (vP_all hP x (hin x hx)).kept (hF.2 x.1 (apart x hx).1 (apart x hx).2)), (hE.2.weaken (fun _ x _ h => hsub x.1 h)).app (vD_of hnd.2.1 fun x hx => vA_in (Or.inl ⟨x, hin x hx, rfl⟩)) ?_⟩, hF.1, fun q h1 h2 => hF.2 q h1 (fun h => h2 (hsub q h))⟩
  intro i j x y hx hy he
  exact (apart y (List.mem_of_getElem? hy)).2 (he ▸ hE.2.2 i x hx)
theorem MetD.cons {cs : List Choice} {l : Launch} {y : MethodName} {ws : List Cond} {rm : Room} {Pc Pd : Array Value → State → Prop} {Qc Qd : Array Value → State → Outcome → State → Prop} {mc ms : Nat} {fr fs : Addr → Prop} (h : MetD cs l y ws rm Pc Qc mc ms fr)
    (hp : ∀ a U, Pd a U → Pc a U) (hq : ∀ a U d o t, Pd a U → Qc a (U.setDrawn d) o t → Qd a (U.setDrawn d) o t) (hf : ∀ q, fr q → fs q) : MetD cs l y ws rm Pd Qd mc ms fs := by
  intro p e ha hc hk s m args below hfr happ hP hK
  obtain ⟨n, o, h1, h2, h3, d, h4, h5, L, h6, h7⟩ := h p e ha hc hk s m args below hfr happ (hp _ _ hP) hK
  exact ⟨n, o, h1, h2, h3, d, h4, hq _ _ _ _ _ hP h5, L, h6, fun q hq => hf _ (h7 q hq)⟩
theorem Met.cons {l : Launch} {y : MethodName} {ws : List Cond} {rm : Room} {Pc Pd : Array Value → State → Prop} {Qc Qd : Array Value → State → Outcome → State → Prop} {mc ms : Nat} {fr fs : Addr → Prop} (h : Met l y ws rm Pc Qc mc ms fr)
    (hp : ∀ a U, Pd a U → Pc a U) (hq : ∀ a U o t, Pd a U → Qc a U o t → Qd a U o t) (hf : ∀ q, fr q → fs q) : Met l y ws rm Pd Qd mc ms fs := by
  intro p e ha hc hk s m args below hfr happ hP hK
  obtain ⟨n, o, h1, h2, h3, h5, L, h6, h7⟩ := h p e ha hc hk s m args below hfr happ (hp _ _ hP) hK
  exact ⟨n, o, h1, h2, h3, hq _ _ _ _ hP h5, L, h6, fun q hq => hf _ (h7 q hq)⟩
section FRM
variable {l : Launch} {y : MethodName} {ws : List Cond} {rm : Room} {mc ms sz : Nat} {G : va_G} {q : Nat → ClassId} {av : List Value} {S : Type} {w1 : S → va_W} {V wc wr : va_W}
theorem preW_perm {a : Array Value} {U : State} (hp : V.Perm (wc ++ wr)) (h : PreW G q av V sz a U) : PreW G q av wc sz a U := by
  obtain ⟨h1, h2, h3, h4, h5, h6⟩ := h
  have h7 := vD_perm h5 hp
  refine ⟨h1, h2, vP_of fun x hx => vP_all h3 x (hp.mem_iff.mpr (List.mem_append_left _ hx)), h4, vD_of ?_ (fun _ _ => trivial), h6⟩
  have := vD_nd h7
  rw [List.map_append, List.nodup_append] at this
  exact this.1
theorem MetD.frV {post : S → Prop} (hp : V.Perm (wc ++ wr)) (h : MetD lw_cs l y ws rm (PreW G q av wc sz) (va_Qv post (fun u t => EndA G (va_A wc sz) (w1 u) t) (va_A wc sz)) mc ms (va_A wc sz)) :
    MetD lw_cs l y ws rm (PreW G q av V sz) (va_Qv post (fun u t => EndA G (va_A V sz) (w1 u ++ wr) t) (va_A V sz)) mc ms (va_A V sz) := by
  refine h.cons (fun a U => preW_perm hp) (fun a U d o t hP hQ => ?_) (fun q => vA_sub fun x hx => hp.mem_iff.mpr (List.mem_append_left _ hx))
  obtain ⟨⟨u, h1, h2, h3⟩, h4⟩ := hQ
  have := fr_core (U := U.setDrawn d) hp hP.2.2.1 hP.2.2.2.2.1 hP.2.1 h3 h4
  exact ⟨⟨u, h1, h2, this.1⟩, this.2⟩
theorem MetD.frI {post : Int32 → S → Prop} (hp : V.Perm (wc ++ wr)) (h : MetD lw_cs l y ws rm (PreW G q av wc sz) (va_Qi post (fun u t => EndA G (va_A wc sz) (w1 u) t) (va_A wc sz)) mc ms (va_A wc sz)) :
    MetD lw_cs l y ws rm (PreW G q av V sz) (va_Qi post (fun u t => EndA G (va_A V sz) (w1 u ++ wr) t) (va_A V sz)) mc ms (va_A V sz) := by
  refine h.cons (fun a U => preW_perm hp) (fun a U d o t hP hQ => ?_) (fun q => vA_sub fun x hx => hp.mem_iff.mpr (List.mem_append_left _ hx))
  obtain ⟨⟨r, u, h1, h2, h3⟩, h4⟩ := hQ
  have := fr_core (U := U.setDrawn d) hp hP.2.2.1 hP.2.2.2.2.1 hP.2.1 h3 h4
  exact ⟨⟨r, u, h1, h2, this.1⟩, this.2⟩
theorem MetD.frD {post : UInt64 → S → Prop} (hp : V.Perm (wc ++ wr)) (h : MetD lw_cs l y ws rm (PreW G q av wc sz) (va_Qd post (fun u t => EndA G (va_A wc sz) (w1 u) t) (va_A wc sz)) mc ms (va_A wc sz)) :
    MetD lw_cs l y ws rm (PreW G q av V sz) (va_Qd post (fun u t => EndA G (va_A V sz) (w1 u ++ wr) t) (va_A V sz)) mc ms (va_A V sz) := by
  refine h.cons (fun a U => preW_perm hp) (fun a U d o t hP hQ => ?_) (fun q => vA_sub fun x hx => hp.mem_iff.mpr (List.mem_append_left _ hx))
  obtain ⟨⟨r, u, h1, h2, h3⟩, h4⟩ := hQ
  have := fr_core (U := U.setDrawn d) hp hP.2.2.1 hP.2.2.2.2.1 hP.2.1 h3 h4
  exact ⟨⟨r, u, h1, h2, this.1⟩, this.2⟩
theorem Met.frV {post : S → Prop} (hp : V.Perm (wc ++ wr)) (h : Met l y ws rm (PreW G q av wc sz) (va_Qv post (fun u t => EndA G (va_A wc sz) (w1 u) t) (va_A wc sz)) mc ms (va_A wc sz)) :
    Met l y ws rm (PreW G q av V sz) (va_Qv post (fun u t => EndA G (va_A V sz) (w1 u ++ wr) t) (va_A V sz)) mc ms (va_A V sz) := by
  refine h.cons (fun a U => preW_perm hp) (fun a U o t hP hQ => ?_) (fun q => vA_sub fun x hx => hp.mem_iff.mpr (List.mem_append_left _ hx))
  obtain ⟨⟨u, h1, h2, h3⟩, h4⟩ := hQ
  have := fr_core hp hP.2.2.1 hP.2.2.2.2.1 hP.2.1 h3 h4
  exact ⟨⟨u, h1, h2, this.1⟩, this.2⟩
theorem Met.frI {post : Int32 → S → Prop} (hp : V.Perm (wc ++ wr)) (h : Met l y ws rm (PreW G q av wc sz) (va_Qi post (fun u t => EndA G (va_A wc sz) (w1 u) t) (va_A wc sz)) mc ms (va_A wc sz)) :
    Met l y ws rm (PreW G q av V sz) (va_Qi post (fun u t => EndA G (va_A V sz) (w1 u ++ wr) t) (va_A V sz)) mc ms (va_A V sz) := by
  refine h.cons (fun a U => preW_perm hp) (fun a U o t hP hQ => ?_) (fun q => vA_sub fun x hx => hp.mem_iff.mpr (List.mem_append_left _ hx))
  obtain ⟨⟨r, u, h1, h2, h3⟩, h4⟩ := hQ
  have := fr_core hp hP.2.2.1 hP.2.2.2.2.1 hP.2.1 h3 h4
  exact ⟨⟨r, u, h1, h2, this.1⟩, this.2⟩
theorem Met.frD {post : UInt64 → S → Prop} (hp : V.Perm (wc ++ wr)) (h : Met l y ws rm (PreW G q av wc sz) (va_Qd post (fun u t => EndA G (va_A wc sz) (w1 u) t) (va_A wc sz)) mc ms (va_A wc sz)) :
    Met l y ws rm (PreW G q av V sz) (va_Qd post (fun u t => EndA G (va_A V sz) (w1 u ++ wr) t) (va_A V sz)) mc ms (va_A V sz) := by
  refine h.cons (fun a U => preW_perm hp) (fun a U o t hP hQ => ?_) (fun q => vA_sub fun x hx => hp.mem_iff.mpr (List.mem_append_left _ hx))
  obtain ⟨⟨r, u, h1, h2, h3⟩, h4⟩ := hQ
  have := fr_core hp hP.2.2.1 hP.2.2.2.2.1 hP.2.1 h3 h4
  exact ⟨⟨r, u, h1, h2, this.1⟩, this.2⟩
/-- the end's cells in another order -/
theorem endA_perm {A : Nat → Prop} {v w : va_W} {t : State} (h : EndA G A v t) (hp : v.Perm w) : EndA G A w t := ⟨vP_perm h.1 hp, vD_perm h.2 hp⟩
end FRM
/-! worlds by numbers -/
theorem fm_congr {L : List Nat} {V W : Nat → va_W} (h : ∀ j ∈ L, V j = W j) : L.flatMap V = L.flatMap W := by
  induction L with
  | nil => rfl
  | cons a L ih =>
    rw [List.flatMap_cons, List.flatMap_cons, h a List.mem_cons_self, ih fun j hj => h j (List.mem_cons_of_mem _ hj)]
def TW (n : Nat) (W : Nat → va_W) : va_W := (List.range n).flatMap W
def TWx (n i : Nat) (W : Nat → va_W) : va_W := ((List.range n).filter (fun j => !decide (j = i))).flatMap W
theorem TW_perm {n i : Nat} (W : Nat → va_W) (h : i < n) : (TW n W).Perm (W i ++ TWx n i W) := by
  have h1 : (List.range n).Perm (i :: (List.range n).filter (fun j => !decide (j = i))) := by
    have hm : i ∈ List.range n := List.mem_range.mpr h
    refine (List.perm_cons_erase hm).trans ?_
    rw [List.nodup_range.erase_eq_filter]
    refine List.Perm.cons _ (List.Perm.of_eq ?_)
    apply List.filter_congr
    intro x _
    simp [bne]
    by_cases e : x = i <;> simp [e]
  exact (h1.flatMap_right W)
theorem TWx_congr {n i : Nat} {V W : Nat → va_W} (h : ∀ j, j ≠ i → V j = W j) : TWx n i V = TWx n i W := by
  unfold TWx
  apply fm_congr
  intro j hj
  have := (List.mem_filter.mp hj).2
  exact h j (by simpa using this)
theorem TW_succ (n : Nat) (W : Nat → va_W) : TW (n + 1) W = TW n W ++ W n := by
  unfold TW
  rw [List.range_succ, List.flatMap_append]
  simp
theorem TW_congr {n : Nat} {V W : Nat → va_W} (h : ∀ j, j < n → V j = W j) : TW n V = TW n W := by
  unfold TW
  apply fm_congr
  intro j hj
  exact h j (List.mem_range.mp hj)
