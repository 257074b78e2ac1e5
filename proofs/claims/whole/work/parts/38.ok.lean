theorem am_P_big {mi pc : Nat} {e : am_E} (h : am_P mi pc = some e) : pc < 1963 := by
  rcases Nat.lt_or_ge pc 1963 with q | q
  · exact q
  · exfalso
    unfold am_P at h
    rw [show Nat.ble 1963 pc = true from Nat.ble_eq_true_of_le q] at h
    cases h
theorem am_okP_spec {mi pc : Nat} {e : am_E} (h : am_okP mi = true) (he : am_P mi pc = some e) : am_okE mi pc e = true := by
  have h1 := List.all_eq_true.mp h pc (List.mem_range.mpr (am_P_big he))
  rw [he] at h1
  exact h1
theorem am_okR_spec {mi a n pc : Nat} {e : am_E} (h : am_okR mi a n = true) (h1 : a ≤ pc) (h2 : pc < a + n) (he : am_P mi pc = some e) : am_okE mi pc e = true := by
  have h3 := List.all_eq_true.mp h (pc - a) (List.mem_range.mpr (by omega))
  simp only [show a + (pc - a) = pc by omega] at h3
  rw [he] at h3
  exact h3
theorem am_all_at {f : Nat → Bool} {n c mi : Nat} (h : ((List.range n).all fun k => f (k + c)) = true) (h1 : c ≤ mi) (h2 : mi < c + n) : f mi = true := by
  have h3 := List.all_eq_true.mp h (mi - c) (List.mem_range.mpr (by omega))
  simp only [show mi - c + c = mi by omega] at h3
  exact h3
theorem am_okP_all {mi : Nat} (h0 : mi ≠ 0) (hn : mi < 205) : am_okP mi = true := by
  by_cases h0 : mi < 13
  · exact am_all_at am_cp_0 (by omega) (by omega)
  by_cases h1 : mi < 25
  · exact am_all_at am_cp_1 (by omega) (by omega)
  by_cases h2 : mi < 36
  · exact am_all_at am_cp_2 (by omega) (by omega)
  by_cases h3 : mi < 48
  · exact am_all_at am_cp_3 (by omega) (by omega)
  by_cases h4 : mi < 60
  · exact am_all_at am_cp_4 (by omega) (by omega)
  by_cases h5 : mi < 72
  · exact am_all_at am_cp_5 (by omega) (by omega)
  by_cases h6 : mi < 84
  · exact am_all_at am_cp_6 (by omega) (by omega)
  by_cases h7 : mi < 94
  · exact am_all_at am_cp_7 (by omega) (by omega)
  by_cases h8 : mi < 106
  · exact am_all_at am_cp_8 (by omega) (by omega)
  by_cases h9 : mi < 118
  · exact am_all_at am_cp_9 (by omega) (by omega)
  by_cases h10 : mi < 130
  · exact am_all_at am_cp_10 (by omega) (by omega)
  by_cases h11 : mi < 141
  · exact am_all_at am_cp_11 (by omega) (by omega)
  by_cases h12 : mi < 153
  · exact am_all_at am_cp_12 (by omega) (by omega)
  by_cases h13 : mi < 165
  · exact am_all_at am_cp_13 (by omega) (by omega)
  by_cases h14 : mi < 177
  · exact am_all_at am_cp_14 (by omega) (by omega)
  by_cases h15 : mi < 189
  · exact am_all_at am_cp_15 (by omega) (by omega)
  by_cases h16 : mi < 197
  · exact am_all_at am_cp_16 (by omega) (by omega)
  by_cases h17 : mi < 204
  · exact am_all_at am_cp_17 (by omega) (by omega)
  exact am_all_at am_cp_18 (by omega) (by omega)
theorem am_okL_all {pc : Nat} {e : am_E} (he : am_P 0 pc = some e) : am_okE 0 pc e = true := by
  have hb := am_P_big he
  by_cases h0 : pc < 100
  · exact am_okR_spec am_cl_0 (by omega) (by omega) he
  by_cases h1 : pc < 200
  · exact am_okR_spec am_cl_1 (by omega) (by omega) he
  by_cases h2 : pc < 300
  · exact am_okR_spec am_cl_2 (by omega) (by omega) he
  by_cases h3 : pc < 400
  · exact am_okR_spec am_cl_3 (by omega) (by omega) he
  by_cases h4 : pc < 500
  · exact am_okR_spec am_cl_4 (by omega) (by omega) he
  by_cases h5 : pc < 600
  · exact am_okR_spec am_cl_5 (by omega) (by omega) he
  by_cases h6 : pc < 700
  · exact am_okR_spec am_cl_6 (by omega) (by omega) he
  by_cases h7 : pc < 800
  · exact am_okR_spec am_cl_7 (by omega) (by omega) he
  by_cases h8 : pc < 900
  · exact am_okR_spec am_cl_8 (by omega) (by omega) he
  by_cases h9 : pc < 1000
  · exact am_okR_spec am_cl_9 (by omega) (by omega) he
  by_cases h10 : pc < 1100
  · exact am_okR_spec am_cl_10 (by omega) (by omega) he
  by_cases h11 : pc < 1200
  · exact am_okR_spec am_cl_11 (by omega) (by omega) he
  by_cases h12 : pc < 1300
  · exact am_okR_spec am_cl_12 (by omega) (by omega) he
  by_cases h13 : pc < 1400
  · exact am_okR_spec am_cl_13 (by omega) (by omega) he
  by_cases h14 : pc < 1500
  · exact am_okR_spec am_cl_14 (by omega) (by omega) he
  by_cases h15 : pc < 1600
  · exact am_okR_spec am_cl_15 (by omega) (by omega) he
  by_cases h16 : pc < 1700
  · exact am_okR_spec am_cl_16 (by omega) (by omega) he
  by_cases h17 : pc < 1800
  · exact am_okR_spec am_cl_17 (by omega) (by omega) he
  by_cases h18 : pc < 1900
  · exact am_okR_spec am_cl_18 (by omega) (by omega) he
  exact am_okR_spec am_cl_19 (by omega) (by omega) he
theorem am_okC_all {mi : Nat} (h0 : mi ≠ 0) (hn : mi < 205) : am_okC mi := by
  by_cases h0 : mi < 21
  · exact (by have := am_cc_0 (mi - 1) (by omega); rwa [show mi - 1 + 1 = mi by omega] at this)
  by_cases h1 : mi < 41
  · exact (by have := am_cc_1 (mi - 21) (by omega); rwa [show mi - 21 + 21 = mi by omega] at this)
  by_cases h2 : mi < 61
  · exact (by have := am_cc_2 (mi - 41) (by omega); rwa [show mi - 41 + 41 = mi by omega] at this)
  by_cases h3 : mi < 81
  · exact (by have := am_cc_3 (mi - 61) (by omega); rwa [show mi - 61 + 61 = mi by omega] at this)
  by_cases h4 : mi < 101
  · exact (by have := am_cc_4 (mi - 81) (by omega); rwa [show mi - 81 + 81 = mi by omega] at this)
  by_cases h5 : mi < 121
  · exact (by have := am_cc_5 (mi - 101) (by omega); rwa [show mi - 101 + 101 = mi by omega] at this)
  by_cases h6 : mi < 141
  · exact (by have := am_cc_6 (mi - 121) (by omega); rwa [show mi - 121 + 121 = mi by omega] at this)
  by_cases h7 : mi < 161
  · exact (by have := am_cc_7 (mi - 141) (by omega); rwa [show mi - 141 + 141 = mi by omega] at this)
  by_cases h8 : mi < 181
  · exact (by have := am_cc_8 (mi - 161) (by omega); rwa [show mi - 161 + 161 = mi by omega] at this)
  by_cases h9 : mi < 201
  · exact (by have := am_cc_9 (mi - 181) (by omega); rwa [show mi - 181 + 181 = mi by omega] at this)
  exact (by have := am_cc_10 (mi - 201) (by omega); rwa [show mi - 201 + 201 = mi by omega] at this)
theorem am_ok : am_OK := by
  refine ⟨fun mi pc e hn he => ?_, fun mi h0 hn => ?_, fun mi hn => ?_⟩
  · by_cases h0 : mi = 0
    · subst h0; exact am_okL_all he
    · exact am_okP_spec (am_okP_all h0 hn) he
  · refine ⟨?_, am_all_at am_cm (by omega) (by unfold am_num at hn; omega)⟩
    have h1 : lw_tbl[(am_wp mi).1]? = some (am_cw mi) := am_okC_all h0 hn
    refine List.mem_filter.mpr ⟨List.mem_of_getElem? h1, ?_⟩
    unfold am_cw
    split <;> rfl
  · exact List.all_eq_true.mp am_ch mi (List.mem_range.mpr hn)
