/-! ===== the planes that hold many windows of a script ===== -/
theorem ctT0_0_8 : chk8 fT T0 8388609 8388600 8388615 6 = true := by decide +kernel
theorem ctT0_0_m : chkm fT T0 8388609 8388600 8388615 212 4732 = true := by decide +kernel
theorem ctT0_0 : Cert T0 (1, -8, 7) := cert_of okT0 (c0 := 8388609) (c1 := 8388600) (c2 := 8388615) (by decide +kernel) (by decide) (by decide) (by decide) (fT_ok _ _) ctT0_0_8 ctT0_0_m (by decide) (by decide) (by decide) (by decide)
theorem ctT0_1_8 : chk8 fT T0 8388619 8388607 8388598 5 = true := by decide +kernel
theorem ctT0_1_m : chkm fT T0 8388619 8388607 8388598 180 4100 = true := by decide +kernel
theorem ctT0_1 : Cert T0 (11, -1, -10) := cert_of okT0 (c0 := 8388619) (c1 := 8388607) (c2 := 8388598) (by decide +kernel) (by decide) (by decide) (by decide) (fT_ok _ _) ctT0_1_8 ctT0_1_m (by decide) (by decide) (by decide) (by decide)
theorem ctT0_2_8 : chk8 fT T0 8390250 8387913 8385660 5 = true := by decide +kernel
theorem ctT0_2_m : chkm fT T0 8390250 8387913 8385660 130 4350 = true := by decide +kernel
theorem ctT0_2 : Cert T0 (1642, -695, -2948) := cert_of okT0 (c0 := 8390250) (c1 := 8387913) (c2 := 8385660) (by decide +kernel) (by decide) (by decide) (by decide) (fT_ok _ _) ctT0_2_8 ctT0_2_m (by decide) (by decide) (by decide) (by decide)
theorem ctT0_3_8 : chk8 fT T0 8390530 8388109 8385184 5 = true := by decide +kernel
theorem ctT0_3_m : chkm fT T0 8390530 8388109 8385184 130 4350 = true := by decide +kernel
theorem ctT0_3 : Cert T0 (1922, -499, -3424) := cert_of okT0 (c0 := 8390530) (c1 := 8388109) (c2 := 8385184) (by decide +kernel) (by decide) (by decide) (by decide) (fT_ok _ _) ctT0_3_8 ctT0_3_m (by decide) (by decide) (by decide) (by decide)
theorem ctT0_4_8 : chk8 fT T0 8395851 8386953 8393025 5 = true := by decide +kernel
theorem ctT0_4_m : chkm fT T0 8395851 8386953 8393025 130 4350 = true := by decide +kernel
theorem ctT0_4 : Cert T0 (7243, -1655, 4417) := cert_of okT0 (c0 := 8395851) (c1 := 8386953) (c2 := 8393025) (by decide +kernel) (by decide) (by decide) (by decide) (fT_ok _ _) ctT0_4_8 ctT0_4_m (by decide) (by decide) (by decide) (by decide)
theorem ctT0_5_8 : chk8 fT T0 8401108 8395357 8381365 5 = true := by decide +kernel
theorem ctT0_5_m : chkm fT T0 8401108 8395357 8381365 130 4350 = true := by decide +kernel
theorem ctT0_5 : Cert T0 (12500, 6749, -7243) := cert_of okT0 (c0 := 8401108) (c1 := 8395357) (c2 := 8381365) (by decide +kernel) (by decide) (by decide) (by decide) (fT_ok _ _) ctT0_5_8 ctT0_5_m (by decide) (by decide) (by decide) (by decide)
theorem ctT1_0_8 : chk8 fT T1 8389107 8388524 8390194 5 = true := by decide +kernel
theorem ctT1_0_m : chkm fT T1 8389107 8388524 8390194 167 4165 = true := by decide +kernel
theorem ctT1_0 : Cert T1 (499, -84, 1586) := cert_of okT1 (c0 := 8389107) (c1 := 8388524) (c2 := 8390194) (by decide +kernel) (by decide) (by decide) (by decide) (fT_ok _ _) ctT1_0_8 ctT1_0_m (by decide) (by decide) (by decide) (by decide)
theorem ctT1_1_8 : chk8 fT T1 8389359 8388650 8389816 5 = true := by decide +kernel
theorem ctT1_1_m : chkm fT T1 8389359 8388650 8389816 139 4305 = true := by decide +kernel
theorem ctT1_1 : Cert T1 (751, 42, 1208) := cert_of okT1 (c0 := 8389359) (c1 := 8388650) (c2 := 8389816) (by decide +kernel) (by decide) (by decide) (by decide) (fT_ok _ _) ctT1_1_8 ctT1_1_m (by decide) (by decide) (by decide) (by decide)
theorem ctT1_2_8 : chk8 fT T1 8391108 8390441 8388277 6 = true := by decide +kernel
theorem ctT1_2_m : chkm fT T1 8391108 8390441 8388277 215 4710 = true := by decide +kernel
theorem ctT1_2 : Cert T1 (2500, 1833, -331) := cert_of okT1 (c0 := 8391108) (c1 := 8390441) (c2 := 8388277) (by decide +kernel) (by decide) (by decide) (by decide) (fT_ok _ _) ctT1_2_8 ctT1_2_m (by decide) (by decide) (by decide) (by decide)
theorem ctT1_3_8 : chk8 fT T1 8391612 8390945 8387269 6 = true := by decide +kernel
theorem ctT1_3_m : chkm fT T1 8391612 8390945 8387269 184 4904 = true := by decide +kernel
theorem ctT1_3 : Cert T1 (3004, 2337, -1339) := cert_of okT1 (c0 := 8391612) (c1 := 8390945) (c2 := 8387269) (by decide +kernel) (by decide) (by decide) (by decide) (fT_ok _ _) ctT1_3_8 ctT1_3_m (by decide) (by decide) (by decide) (by decide)
theorem ctT1_4_8 : chk8 fT T1 8393613 8390777 8383435 6 = true := by decide +kernel
theorem ctT1_4_m : chkm fT T1 8393613 8390777 8383435 129 5229 = true := by decide +kernel
theorem ctT1_4 : Cert T1 (5005, 2169, -5173) := cert_of okT1 (c0 := 8393613) (c1 := 8390777) (c2 := 8383435) (by decide +kernel) (by decide) (by decide) (by decide) (fT_ok _ _) ctT1_4_8 ctT1_4_m (by decide) (by decide) (by decide) (by decide)
theorem ctT1_5_8 : chk8 fT T1 8393613 8390945 8397274 5 = true := by decide +kernel
theorem ctT1_5_m : chkm fT T1 8393613 8390945 8397274 130 4350 = true := by decide +kernel
theorem ctT1_5 : Cert T1 (5005, 2337, 8666) := cert_of okT1 (c0 := 8393613) (c1 := 8390945) (c2 := 8397274) (by decide +kernel) (by decide) (by decide) (by decide) (fT_ok _ _) ctT1_5_8 ctT1_5_m (by decide) (by decide) (by decide) (by decide)
theorem ctT1_6_8 : chk8 fT T1 8395456 8383682 8384685 5 = true := by decide +kernel
theorem ctT1_6_m : chkm fT T1 8395456 8383682 8384685 130 4350 = true := by decide +kernel
theorem ctT1_6 : Cert T1 (6848, -4926, -3923) := cert_of okT1 (c0 := 8395456) (c1 := 8383682) (c2 := 8384685) (by decide +kernel) (by decide) (by decide) (by decide) (fT_ok _ _) ctT1_6_8 ctT1_6_m (by decide) (by decide) (by decide) (by decide)
theorem ctT1_7_8 : chk8 fT T1 8395851 8387615 8388361 5 = true := by decide +kernel
theorem ctT1_7_m : chkm fT T1 8395851 8387615 8388361 130 4350 = true := by decide +kernel
theorem ctT1_7 : Cert T1 (7243, -993, -247) := cert_of okT1 (c0 := 8395851) (c1 := 8387615) (c2 := 8388361) (by decide +kernel) (by decide) (by decide) (by decide) (fT_ok _ _) ctT1_7_8 ctT1_7_m (by decide) (by decide) (by decide) (by decide)
theorem ctT2_0_8 : chk8 fT T2 8388610 8388611 8388603 6 = true := by decide +kernel
theorem ctT2_0_m : chkm fT T2 8388610 8388611 8388603 200 4800 = true := by decide +kernel
theorem ctT2_0 : Cert T2 (2, 3, -5) := cert_of okT2 (c0 := 8388610) (c1 := 8388611) (c2 := 8388603) (by decide +kernel) (by decide) (by decide) (by decide) (fT_ok _ _) ctT2_0_8 ctT2_0_m (by decide) (by decide) (by decide) (by decide)
theorem ctT2_1_8 : chk8 f5 T2 8388613 8388605 8388606 4 = true := by decide +kernel
theorem ctT2_1_m : chkm f5 T2 8388613 8388605 8388606 268 2928 = true := by decide +kernel
theorem ctT2_1 : Cert T2 (5, -3, -2) := cert_of okT2 (c0 := 8388613) (c1 := 8388605) (c2 := 8388606) (by decide +kernel) (by decide) (by decide) (by decide) f5_ok ctT2_1_8 ctT2_1_m (by decide) (by decide) (by decide) (by decide)
theorem ctT2_2_8 : chk8 fT T2 8391439 8391938 8384448 5 = true := by decide +kernel
theorem ctT2_2_m : chkm fT T2 8391439 8391938 8384448 162 4190 = true := by decide +kernel
theorem ctT2_2 : Cert T2 (2831, 3330, -4160) := cert_of okT2 (c0 := 8391439) (c1 := 8391938) (c2 := 8384448) (by decide +kernel) (by decide) (by decide) (by decide) (fT_ok _ _) ctT2_2_8 ctT2_2_m (by decide) (by decide) (by decide) (by decide)
theorem ctT2_3_8 : chk8 fT T2 8392941 8375777 8401108 5 = true := by decide +kernel
theorem ctT2_3_m : chkm fT T2 8392941 8375777 8401108 130 4350 = true := by decide +kernel
theorem ctT2_3 : Cert T2 (4333, -12831, 12500) := cert_of okT2 (c0 := 8392941) (c1 := 8375777) (c2 := 8401108) (by decide +kernel) (by decide) (by decide) (by decide) (fT_ok _ _) ctT2_3_8 ctT2_3_m (by decide) (by decide) (by decide) (by decide)
theorem ctT2_4_8 : chk8 fT T2 8395357 8379443 8393025 5 = true := by decide +kernel
theorem ctT2_4_m : chkm fT T2 8395357 8379443 8393025 130 4350 = true := by decide +kernel
theorem ctT2_4 : Cert T2 (6749, -9165, 4417) := cert_of okT2 (c0 := 8395357) (c1 := 8379443) (c2 := 8393025) (by decide +kernel) (by decide) (by decide) (by decide) (fT_ok _ _) ctT2_4_8 ctT2_4_m (by decide) (by decide) (by decide) (by decide)
theorem ctT2_5_8 : chk8 fT T2 8397783 8397284 8386765 5 = true := by decide +kernel
theorem ctT2_5_m : chkm fT T2 8397783 8397284 8386765 162 4190 = true := by decide +kernel
theorem ctT2_5 : Cert T2 (9175, 8676, -1843) := cert_of okT2 (c0 := 8397783) (c1 := 8397284) (c2 := 8386765) (by decide +kernel) (by decide) (by decide) (by decide) (fT_ok _ _) ctT2_5_8 ctT2_5_m (by decide) (by decide) (by decide) (by decide)
theorem ctT4_0_8 : chk8 fT T4 8388609 8388600 8388615 6 = true := by decide +kernel
theorem ctT4_0_m : chkm fT T4 8388609 8388600 8388615 212 4732 = true := by decide +kernel
theorem ctT4_0 : Cert T4 (1, -8, 7) := cert_of okT4 (c0 := 8388609) (c1 := 8388600) (c2 := 8388615) (by decide +kernel) (by decide) (by decide) (by decide) (fT_ok _ _) ctT4_0_8 ctT4_0_m (by decide) (by decide) (by decide) (by decide)
theorem ctT4_1_8 : chk8 fT T4 8388619 8388607 8388598 5 = true := by decide +kernel
theorem ctT4_1_m : chkm fT T4 8388619 8388607 8388598 205 3980 = true := by decide +kernel
theorem ctT4_1 : Cert T4 (11, -1, -10) := cert_of okT4 (c0 := 8388619) (c1 := 8388607) (c2 := 8388598) (by decide +kernel) (by decide) (by decide) (by decide) (fT_ok _ _) ctT4_1_8 ctT4_1_m (by decide) (by decide) (by decide) (by decide)
theorem ctT4_2_8 : chk8 fT T4 8390530 8388109 8385184 5 = true := by decide +kernel
theorem ctT4_2_m : chkm fT T4 8390530 8388109 8385184 130 4350 = true := by decide +kernel
theorem ctT4_2 : Cert T4 (1922, -499, -3424) := cert_of okT4 (c0 := 8390530) (c1 := 8388109) (c2 := 8385184) (by decide +kernel) (by decide) (by decide) (by decide) (fT_ok _ _) ctT4_2_8 ctT4_2_m (by decide) (by decide) (by decide) (by decide)
theorem ctT4_3_8 : chk8 fT T4 8393025 8388855 8387946 5 = true := by decide +kernel
theorem ctT4_3_m : chkm fT T4 8393025 8388855 8387946 130 4350 = true := by decide +kernel
theorem ctT4_3 : Cert T4 (4417, 247, -662) := cert_of okT4 (c0 := 8393025) (c1 := 8388855) (c2 := 8387946) (by decide +kernel) (by decide) (by decide) (by decide) (fT_ok _ _) ctT4_3_8 ctT4_3_m (by decide) (by decide) (by decide) (by decide)
theorem ctT4_4_8 : chk8 fT T4 8395851 8386953 8393025 5 = true := by decide +kernel
theorem ctT4_4_m : chkm fT T4 8395851 8386953 8393025 130 4350 = true := by decide +kernel
theorem ctT4_4 : Cert T4 (7243, -1655, 4417) := cert_of okT4 (c0 := 8395851) (c1 := 8386953) (c2 := 8393025) (by decide +kernel) (by decide) (by decide) (by decide) (fT_ok _ _) ctT4_4_8 ctT4_4_m (by decide) (by decide) (by decide) (by decide)
theorem ctT4_5_8 : chk8 fT T4 8401108 8395357 8381365 5 = true := by decide +kernel
theorem ctT4_5_m : chkm fT T4 8401108 8395357 8381365 141 4310 = true := by decide +kernel
theorem ctT4_5 : Cert T4 (12500, 6749, -7243) := cert_of okT4 (c0 := 8401108) (c1 := 8395357) (c2 := 8381365) (by decide +kernel) (by decide) (by decide) (by decide) (fT_ok _ _) ctT4_5_8 ctT4_5_m (by decide) (by decide) (by decide) (by decide)
def D0 : List Z3 := [(1, -8, 7), (11, -1, -10), (1642, -695, -2948), (1922, -499, -3424), (7243, -1655, 4417), (12500, 6749, -7243)]
theorem D0_ok : ∀ e, e ∈ D0 → Cert T0 e ∧ e ≠ (0, 0, 0) := by
  intro e he
  simp only [D0, List.mem_cons, List.not_mem_nil, or_false] at he
  rcases he with rfl | rfl | rfl | rfl | rfl | rfl
  · exact ⟨ctT0_0, by decide⟩
  · exact ⟨ctT0_1, by decide⟩
  · exact ⟨ctT0_2, by decide⟩
  · exact ⟨ctT0_3, by decide⟩
  · exact ⟨ctT0_4, by decide⟩
  · exact ⟨ctT0_5, by decide⟩
def D1 : List Z3 := [(499, -84, 1586), (751, 42, 1208), (2500, 1833, -331), (3004, 2337, -1339), (5005, 2169, -5173), (5005, 2337, 8666), (6848, -4926, -3923), (7243, -993, -247)]
theorem D1_ok : ∀ e, e ∈ D1 → Cert T1 e ∧ e ≠ (0, 0, 0) := by
  intro e he
  simp only [D1, List.mem_cons, List.not_mem_nil, or_false] at he
  rcases he with rfl | rfl | rfl | rfl | rfl | rfl | rfl | rfl
  · exact ⟨ctT1_0, by decide⟩
  · exact ⟨ctT1_1, by decide⟩
  · exact ⟨ctT1_2, by decide⟩
  · exact ⟨ctT1_3, by decide⟩
  · exact ⟨ctT1_4, by decide⟩
  · exact ⟨ctT1_5, by decide⟩
  · exact ⟨ctT1_6, by decide⟩
  · exact ⟨ctT1_7, by decide⟩
def D2 : List Z3 := [(2, 3, -5), (5, -3, -2), (2831, 3330, -4160), (4333, -12831, 12500), (6749, -9165, 4417), (9175, 8676, -1843)]
theorem D2_ok : ∀ e, e ∈ D2 → Cert T2 e ∧ e ≠ (0, 0, 0) := by
  intro e he
  simp only [D2, List.mem_cons, List.not_mem_nil, or_false] at he
  rcases he with rfl | rfl | rfl | rfl | rfl | rfl
  · exact ⟨ctT2_0, by decide⟩
  · exact ⟨ctT2_1, by decide⟩
  · exact ⟨ctT2_2, by decide⟩
  · exact ⟨ctT2_3, by decide⟩
  · exact ⟨ctT2_4, by decide⟩
  · exact ⟨ctT2_5, by decide⟩
def D4 : List Z3 := [(1, -8, 7), (11, -1, -10), (1922, -499, -3424), (4417, 247, -662), (7243, -1655, 4417), (12500, 6749, -7243)]
theorem D4_ok : ∀ e, e ∈ D4 → Cert T4 e ∧ e ≠ (0, 0, 0) := by
  intro e he
  simp only [D4, List.mem_cons, List.not_mem_nil, or_false] at he
  rcases he with rfl | rfl | rfl | rfl | rfl | rfl
  · exact ⟨ctT4_0, by decide⟩
  · exact ⟨ctT4_1, by decide⟩
  · exact ⟨ctT4_2, by decide⟩
  · exact ⟨ctT4_3, by decide⟩
  · exact ⟨ctT4_4, by decide⟩
  · exact ⟨ctT4_5, by decide⟩
