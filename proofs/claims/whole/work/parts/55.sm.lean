/-! ===== what the methods do, piece by piece (written by wip/gen/gen_wp.py) ===== -/
variable {L : Nat} {xs : Nat → Int32} {d : Nat} {h : am_M} {o : am_L} {g : Nat} {Q : Option Value → am_M → am_L → Nat → Prop} {T : Nat → am_M → am_L → Nat → Prop}
theorem sm_138_124 {x1 : Int32} {q2 : Option Value} {x3 : Int32} {q4 : Option Value} {z0 : Int32} (hq2 : am_nl q2 = true) (hq4 : am_nl q4 = true) (H : (if x3 = (-1) then (if (h 64 25) = 0 then (if (h 64 21) = 3 then am_X L xs d 134 0 [some (.ref 64), none] [] am_C0 h o g (fun w h' o' g' => am_X L xs (d + 1) 138 173 [some (.ref 64), some (.int x1), q2, some (.int x3), some (.int z0)] (w.toList ++ []) am_C0 h' o' g' Q T) T else Q (some (.int x1)) (am_set (am_set h 64 25 1) 64 26 (h 64 23)) o g) else Q (some (.int x1)) h o g) else (am_ix (10 + x3) 14 ∧ (if (h 64 25) = 0 then (if (h 64 21) = 3 then am_X L xs d 134 0 [some (.ref 64), none] [] am_C0 (am_set h 68 ((10 + x3).toNatClampNeg) z0) o g (fun w h' o' g' => am_X L xs (d + 1) 138 173 [some (.ref 64), some (.int x1), q2, some (.int x3), some (.int z0)] (w.toList ++ []) am_C0 h' o' g' Q T) T else Q (some (.int (x1 ||| (1 <<< (x3 &&& 31))))) (am_set (am_set (am_set h 68 ((10 + x3).toNatClampNeg) z0) 64 25 1) 64 26 (h 64 23)) o g) else Q (some (.int (x1 ||| (1 <<< (x3 &&& 31))))) (am_set h 68 ((10 + x3).toNatClampNeg) z0) o g)))) : am_X L xs (d + 1) 138 124 [some (.ref 64), some (.int x1), q2, some (.int x3), q4] [.int z0] am_C0 h o g Q T := by
  refine xo_4 (lv' := [some (.ref 64), some (.int x1), q2, some (.int x3), some (.int z0)]) rfl rfl rfl ?_
  refine xo_1 rfl rfl ?_
  refine xo_0 rfl ?_
  refine xo_11eq rfl (am_sp ?_ ?_ H)
  · intro hc1 H
    refine xo_2 rfl rfl ?_
    refine xo_13 rfl cf_64_25 ?_
    refine xo_10ne rfl (am_sp ?_ ?_ H)
    · intro hc2 H
      refine xo_2 rfl rfl ?_
      refine xo_13 rfl cf_64_21 ?_
      refine xo_0 rfl ?_
      refine xo_11eq rfl (am_sp ?_ ?_ H)
      · intro hc3 H
        refine xo_2 rfl rfl ?_
        refine xo_13 rfl cf_64_25 ?_
        refine xo_10ne rfl (am_ift hc2 ?_)
        refine xo_2 rfl rfl ?_
        refine cl_134_64 rfl hd_138 rfl ?_
        exact H
      · intro hc3 H
        refine xo_2 rfl rfl ?_
        refine xo_0 rfl ?_
        refine cl_143_64 rfl hd_138 rfl ?_
        refine xo_2 rfl rfl ?_
        refine xo_13 rfl cf_64_25 ?_
        refine xo_10eq rfl (am_ift hc2 ?_)
        refine xo_2 rfl rfl ?_
        refine xo_1 rfl rfl ?_
        refine xo_14 rfl cf_64_25 ?_
        refine xo_2 rfl rfl ?_
        refine xo_2 rfl rfl ?_
        refine xo_13 rfl cf_64_23 ?_
        refine xo_14 rfl cf_64_26 ?_
        refine xr_44 rfl ?_
        refine xo_2 rfl rfl ?_
        refine xo_13 rfl cf_64_25 ?_
        show am_X L xs (d + 1) 138 166 [some (.ref 64), some (.int x1), q2, some (.int x3), some (.int z0)] [.int 1] am_C0 (am_set (am_set h 64 25 1) 64 26 (h 64 23)) o g Q T
        refine xo_10 rfl (by decide) ?_
        refine xo_1 rfl rfl ?_
        refine xo_0 rfl ?_
        refine xo_11ne rfl (am_ift hc1 ?_)
        refine xo_1 rfl rfl ?_
        refine xo_12 rfl ?_
        refine xo_41 rfl ?_
        exact H
    · intro hc2 H
      refine xo_2 rfl rfl ?_
      refine xo_13 rfl cf_64_25 ?_
      refine xo_10ne rfl (am_iff hc2 ?_)
      refine xo_1 rfl rfl ?_
      refine xo_0 rfl ?_
      refine xo_11ne rfl (am_ift hc1 ?_)
      refine xo_1 rfl rfl ?_
      refine xo_12 rfl ?_
      refine xo_41 rfl ?_
      exact H
  · intro hc1 H
    refine xo_2 rfl rfl ?_
    refine xo_13r rfl cr_64_4 ?_
    refine xo_0 rfl ?_
    refine xo_1 rfl rfl ?_
    refine xo_7 rfl rfl ?_
    refine xo_1 rfl rfl ?_
    obtain ⟨hg4, H⟩ := H
    refine xo_22 rfl ca_68 hg4 ?_
    refine xo_2 rfl rfl ?_
    refine xo_13 rfl cf_64_25 ?_
    refine xo_10ne rfl (am_sp ?_ ?_ H)
    · intro hc5 H
      refine xo_2 rfl rfl ?_
      refine xo_13 rfl cf_64_21 ?_
      refine xo_0 rfl ?_
      refine xo_11eq rfl (am_sp ?_ ?_ H)
      · intro hc6 H
        refine xo_2 rfl rfl ?_
        refine xo_13 rfl cf_64_25 ?_
        refine xo_10ne rfl (am_ift hc5 ?_)
        refine xo_2 rfl rfl ?_
        refine cl_134_64 rfl hd_138 rfl ?_
        exact H
      · intro hc6 H
        refine xo_2 rfl rfl ?_
        refine xo_0 rfl ?_
        refine cl_143_64 rfl hd_138 rfl ?_
        refine xo_2 rfl rfl ?_
        refine xo_13 rfl cf_64_25 ?_
        refine xo_10eq rfl (am_ift hc5 ?_)
        refine xo_2 rfl rfl ?_
        refine xo_1 rfl rfl ?_
        refine xo_14 rfl cf_64_25 ?_
        refine xo_2 rfl rfl ?_
        refine xo_2 rfl rfl ?_
        refine xo_13 rfl cf_64_23 ?_
        refine xo_14 rfl cf_64_26 ?_
        refine xr_44 rfl ?_
        refine xo_2 rfl rfl ?_
        refine xo_13 rfl cf_64_25 ?_
        show am_X L xs (d + 1) 138 166 [some (.ref 64), some (.int x1), q2, some (.int x3), some (.int z0)] [.int 1] am_C0 (am_set (am_set (am_set h 68 ((10 + x3).toNatClampNeg) z0) 64 25 1) 64 26 (h 64 23)) o g Q T
        refine xo_10 rfl (by decide) ?_
        refine xo_1 rfl rfl ?_
        refine xo_0 rfl ?_
        refine xo_11ne rfl (am_iff hc1 ?_)
        refine xo_1 rfl rfl ?_
        refine xo_0 rfl ?_
        refine xo_1 rfl rfl ?_
        refine xo_7 rfl rfl ?_
        refine xo_7 rfl rfl ?_
        refine xo_41 rfl ?_
        exact H
    · intro hc5 H
      refine xo_2 rfl rfl ?_
      refine xo_13 rfl cf_64_25 ?_
      refine xo_10ne rfl (am_iff hc5 ?_)
      refine xo_1 rfl rfl ?_
      refine xo_0 rfl ?_
      refine xo_11ne rfl (am_iff hc1 ?_)
      refine xo_1 rfl rfl ?_
      refine xo_0 rfl ?_
      refine xo_1 rfl rfl ?_
      refine xo_7 rfl rfl ?_
      refine xo_7 rfl rfl ?_
      refine xo_41 rfl ?_
      exact H
theorem sm_138_104 {x1 : Int32} {q2 : Option Value} {x3 : Int32} {q4 : Option Value} (hq2 : am_nl q2 = true) (hq4 : am_nl q4 = true) (H : (if x3 = (-1) then am_X L xs d 144 0 [some (.ref 64), some (.int 0), some (.int 0), none] [] am_C0 h o g (fun w h' o' g' => am_X L xs (d + 1) 138 124 [some (.ref 64), some (.int x1), q2, some (.int x3), q4] (w.toList ++ []) am_C0 h' o' g' Q T) T else (am_ix x3 4 ∧ am_X L xs d 144 0 [some (.ref 64), some (.int 0), some (.int (h 67 x3.toNatClampNeg)), none] [] am_C0 h o g (fun w h' o' g' => am_X L xs (d + 1) 138 124 [some (.ref 64), some (.int x1), q2, some (.int x3), q4] (w.toList ++ []) am_C0 h' o' g' Q T) T))) : am_X L xs (d + 1) 138 104 [some (.ref 64), some (.int x1), q2, some (.int x3), q4] [] am_C0 h o g Q T := by
  refine xo_2 rfl rfl ?_
  refine xo_0 rfl ?_
  refine xo_1 rfl rfl ?_
  refine xo_0 rfl ?_
  refine xo_11ne rfl (am_sp ?_ ?_ H)
  · intro hc1 H
    refine xo_0 rfl ?_
    refine xo_12 rfl ?_
    refine cl_144_64 rfl hd_138 rfl ?_
    exact H
  · intro hc1 H
    refine xo_2 rfl rfl ?_
    refine xo_13r rfl cr_64_2 ?_
    refine xo_1 rfl rfl ?_
    obtain ⟨hg2, H⟩ := H
    refine xo_17 rfl ca_67 hg2 ?_
    refine cl_144_64 rfl hd_138 rfl ?_
    exact H
theorem sm_138_63 {x1 : Int32} {q2 : Option Value} {x3 : Int32} {q4 : Option Value} (hq2 : am_nl q2 = true) (hq4 : am_nl q4 = true) (H : (if (h 64 25) = 0 then (if (h 64 21) = 3 then am_X L xs d 134 0 [some (.ref 64), none] [] am_C0 h o g (fun w h' o' g' => am_X L xs (d + 1) 138 173 [some (.ref 64), some (.int x1), q2, some (.int x3), q4] (w.toList ++ []) am_C0 h' o' g' Q T) T else (if x3 = (-1) then Q (some (.int x1)) (am_set (am_set h 64 25 1) 64 26 (h 64 23)) o g else Q (some (.int (x1 ||| (1 <<< (x3 &&& 31))))) (am_set (am_set h 64 25 1) 64 26 (h 64 23)) o g)) else (if x3 = (-1) then Q (some (.int x1)) h o g else Q (some (.int (x1 ||| (1 <<< (x3 &&& 31))))) h o g))) : am_X L xs (d + 1) 138 63 [some (.ref 64), some (.int x1), q2, some (.int x3), q4] [] am_C0 h o g Q T := by
  refine xo_12 rfl ?_
  refine xo_2 rfl rfl ?_
  refine xo_13 rfl cf_64_25 ?_
  refine xo_10ne rfl (am_sp ?_ ?_ H)
  · intro hc1 H
    refine xo_2 rfl rfl ?_
    refine xo_13 rfl cf_64_21 ?_
    refine xo_0 rfl ?_
    refine xo_11eq rfl (am_sp ?_ ?_ H)
    · intro hc2 H
      refine xo_2 rfl rfl ?_
      refine xo_13 rfl cf_64_25 ?_
      refine xo_10ne rfl (am_ift hc1 ?_)
      refine xo_2 rfl rfl ?_
      refine cl_134_64 rfl hd_138 rfl ?_
      exact H
    · intro hc2 H
      refine xo_2 rfl rfl ?_
      refine xo_0 rfl ?_
      refine cl_143_64 rfl hd_138 rfl ?_
      refine xo_2 rfl rfl ?_
      refine xo_13 rfl cf_64_25 ?_
      refine xo_10eq rfl (am_ift hc1 ?_)
      refine xo_2 rfl rfl ?_
      refine xo_1 rfl rfl ?_
      refine xo_14 rfl cf_64_25 ?_
      refine xo_2 rfl rfl ?_
      refine xo_2 rfl rfl ?_
      refine xo_13 rfl cf_64_23 ?_
      refine xo_14 rfl cf_64_26 ?_
      refine xr_44 rfl ?_
      refine xo_2 rfl rfl ?_
      refine xo_13 rfl cf_64_25 ?_
      show am_X L xs (d + 1) 138 166 [some (.ref 64), some (.int x1), q2, some (.int x3), q4] [.int 1] am_C0 (am_set (am_set h 64 25 1) 64 26 (h 64 23)) o g Q T
      refine xo_10 rfl (by decide) ?_
      refine xo_1 rfl rfl ?_
      refine xo_0 rfl ?_
      refine xo_11ne rfl (am_sp ?_ ?_ H)
      · intro hc3 H
        refine xo_1 rfl rfl ?_
        refine xo_12 rfl ?_
        refine xo_41 rfl ?_
        exact H
      · intro hc3 H
        refine xo_1 rfl rfl ?_
        refine xo_0 rfl ?_
        refine xo_1 rfl rfl ?_
        refine xo_7 rfl rfl ?_
        refine xo_7 rfl rfl ?_
        refine xo_41 rfl ?_
        exact H
  · intro hc1 H
    refine xo_2 rfl rfl ?_
    refine xo_13 rfl cf_64_25 ?_
    refine xo_10ne rfl (am_iff hc1 ?_)
    refine xo_1 rfl rfl ?_
    refine xo_0 rfl ?_
    refine xo_11ne rfl (am_sp ?_ ?_ H)
    · intro hc4 H
      refine xo_1 rfl rfl ?_
      refine xo_12 rfl ?_
      refine xo_41 rfl ?_
      exact H
    · intro hc4 H
      refine xo_1 rfl rfl ?_
      refine xo_0 rfl ?_
      refine xo_1 rfl rfl ?_
      refine xo_7 rfl rfl ?_
      refine xo_7 rfl rfl ?_
      refine xo_41 rfl ?_
      exact H
theorem sm_138_49 {x1 : Int32} {q2 : Option Value} {x3 : Int32} {q4 : Option Value} {z0 : Int32} (hq2 : am_nl q2 = true) (hq4 : am_nl q4 = true) (H : (if (h 64 25) = 0 then (if (h 64 21) = 3 then am_X L xs d 134 0 [some (.ref 64), none] [] am_C0 h o g (fun w h' o' g' => am_X L xs (d + 1) 138 173 [some (.ref 64), some (.int x1), q2, some (.int x3), q4] (w.toList ++ []) am_C0 h' o' g' Q T) T else (if x3 = (-1) then Q (some (.int x1)) (am_set (am_set h 64 25 1) 64 26 (h 64 23)) o g else Q (some (.int (x1 ||| (1 <<< (x3 &&& 31))))) (am_set (am_set h 64 25 1) 64 26 (h 64 23)) o g)) else (if x3 = (-1) then Q (some (.int x1)) h o g else Q (some (.int (x1 ||| (1 <<< (x3 &&& 31))))) h o g))) : am_X L xs (d + 1) 138 49 [some (.ref 64), some (.int x1), q2, some (.int x3), q4] [.int z0] am_C0 h o g Q T := by
  refine xo_30 rfl rfl ?_
  refine xo_12 rfl ?_
  refine xo_2 rfl rfl ?_
  refine xo_13 rfl cf_64_25 ?_
  refine xo_10ne rfl (am_sp ?_ ?_ H)
  · intro hc1 H
    refine xo_2 rfl rfl ?_
    refine xo_13 rfl cf_64_21 ?_
    refine xo_0 rfl ?_
    refine xo_11eq rfl (am_sp ?_ ?_ H)
    · intro hc2 H
      refine xo_2 rfl rfl ?_
      refine xo_13 rfl cf_64_25 ?_
      refine xo_10ne rfl (am_ift hc1 ?_)
      refine xo_2 rfl rfl ?_
      refine cl_134_64 rfl hd_138 rfl ?_
      exact H
    · intro hc2 H
      refine xo_2 rfl rfl ?_
      refine xo_0 rfl ?_
      refine cl_143_64 rfl hd_138 rfl ?_
      refine xo_2 rfl rfl ?_
      refine xo_13 rfl cf_64_25 ?_
      refine xo_10eq rfl (am_ift hc1 ?_)
      refine xo_2 rfl rfl ?_
      refine xo_1 rfl rfl ?_
      refine xo_14 rfl cf_64_25 ?_
      refine xo_2 rfl rfl ?_
      refine xo_2 rfl rfl ?_
      refine xo_13 rfl cf_64_23 ?_
      refine xo_14 rfl cf_64_26 ?_
      refine xr_44 rfl ?_
      refine xo_2 rfl rfl ?_
      refine xo_13 rfl cf_64_25 ?_
      show am_X L xs (d + 1) 138 166 [some (.ref 64), some (.int x1), q2, some (.int x3), q4] [.int 1] am_C0 (am_set (am_set h 64 25 1) 64 26 (h 64 23)) o g Q T
      refine xo_10 rfl (by decide) ?_
      refine xo_1 rfl rfl ?_
      refine xo_0 rfl ?_
      refine xo_11ne rfl (am_sp ?_ ?_ H)
      · intro hc3 H
        refine xo_1 rfl rfl ?_
        refine xo_12 rfl ?_
        refine xo_41 rfl ?_
        exact H
      · intro hc3 H
        refine xo_1 rfl rfl ?_
        refine xo_0 rfl ?_
        refine xo_1 rfl rfl ?_
        refine xo_7 rfl rfl ?_
        refine xo_7 rfl rfl ?_
        refine xo_41 rfl ?_
        exact H
  · intro hc1 H
    refine xo_2 rfl rfl ?_
    refine xo_13 rfl cf_64_25 ?_
    refine xo_10ne rfl (am_iff hc1 ?_)
    refine xo_1 rfl rfl ?_
    refine xo_0 rfl ?_
    refine xo_11ne rfl (am_sp ?_ ?_ H)
    · intro hc4 H
      refine xo_1 rfl rfl ?_
      refine xo_12 rfl ?_
      refine xo_41 rfl ?_
      exact H
    · intro hc4 H
      refine xo_1 rfl rfl ?_
      refine xo_0 rfl ?_
      refine xo_1 rfl rfl ?_
      refine xo_7 rfl rfl ?_
      refine xo_7 rfl rfl ?_
      refine xo_41 rfl ?_
      exact H
theorem sm_138_173 {q0 : Option Value} {x1 : Int32} {q2 : Option Value} {x3 : Int32} {q4 : Option Value} (hq0 : am_nl q0 = true) (hq2 : am_nl q2 = true) (hq4 : am_nl q4 = true) (H : (if x3 = (-1) then Q (some (.int x1)) h o g else Q (some (.int (x1 ||| (1 <<< (x3 &&& 31))))) h o g)) : am_X L xs d 138 173 [q0, some (.int x1), q2, some (.int x3), q4] [] am_C0 h o g Q T := by
  refine xo_1 rfl rfl ?_
  refine xo_0 rfl ?_
  refine xo_11ne rfl (am_sp ?_ ?_ H)
  · intro hc1 H
    refine xo_1 rfl rfl ?_
    refine xo_12 rfl ?_
    refine xo_41 rfl ?_
    exact H
  · intro hc1 H
    refine xo_1 rfl rfl ?_
    refine xo_0 rfl ?_
    refine xo_1 rfl rfl ?_
    refine xo_7 rfl rfl ?_
    refine xo_7 rfl rfl ?_
    refine xo_41 rfl ?_
    exact H
theorem sm_139_64_65 (H : am_X L xs d 139 2 [some (.ref 64), some (.ref 65), some (.int 0)] [] am_C0 h o g Q T) : am_X L xs d 139 0 [some (.ref 64), some (.ref 65), none] [] am_C0 h o g Q T := by
  refine xo_0 rfl ?_
  refine xo_4 (lv' := [some (.ref 64), some (.ref 65), some (.int 0)]) rfl rfl rfl ?_
  exact H
theorem sm_139_64_65_2 {x2 : Int32} (H : (if x2 < 3 then (if x2 = 0 then am_X L xs d 140 0 [some (.ref 64), some (.ref 1000011), none, none] [] am_C0 h o g (fun w h' o' g' => am_X L xs (d + 1) 139 15 [some (.ref 64), some (.ref 65), some (.int x2)] (w.toList ++ []) am_C0 h' o' g' Q T) T else (if x2 = 1 then am_X L xs d 140 0 [some (.ref 64), some (.ref 1000012), none, none] [] am_C0 h o g (fun w h' o' g' => am_X L xs (d + 1) 139 15 [some (.ref 64), some (.ref 65), some (.int x2)] (w.toList ++ []) am_C0 h' o' g' Q T) T else (if x2 = 2 then am_X L xs d 140 0 [some (.ref 64), some (.ref 1000013), none, none] [] am_C0 h o g (fun w h' o' g' => am_X L xs (d + 1) 139 15 [some (.ref 64), some (.ref 65), some (.int x2)] (w.toList ++ []) am_C0 h' o' g' Q T) T else False))) else Q (some (.int (-1))) h o g)) : am_X L xs (d + 1) 139 2 [some (.ref 64), some (.ref 65), some (.int x2)] [] am_C0 h o g Q T := by
  refine xo_1 rfl rfl ?_
  refine xo_2 rfl rfl ?_
  refine xo_27r (z := 3) rfl cb_65 rfl ?_
  refine xo_11ge rfl (am_sp ?_ ?_ H)
  · intro hc1 H
    refine xo_2 rfl rfl ?_
    refine xo_2 rfl rfl ?_
    refine xo_1 rfl rfl ?_
    by_cases hc2 : x2 = 0
    · rw [if_pos hc2] at H
      refine xo_20 (w := 1000011) rfl cb_65 (by rw [hc2]; exact am_ix.lit rfl) (by rw [hc2]; rfl) ?_
      refine cl_140_s rfl hd_139 rfl ?_
      exact H
    · rw [if_neg hc2] at H
      by_cases hc3 : x2 = 1
      · rw [if_pos hc3] at H
        refine xo_20 (w := 1000012) rfl cb_65 (by rw [hc3]; exact am_ix.lit rfl) (by rw [hc3]; rfl) ?_
        refine cl_140_s rfl hd_139 rfl ?_
        exact H
      · rw [if_neg hc3] at H
        by_cases hc4 : x2 = 2
        · rw [if_pos hc4] at H
          refine xo_20 (w := 1000013) rfl cb_65 (by rw [hc4]; exact am_ix.lit rfl) (by rw [hc4]; rfl) ?_
          refine cl_140_s rfl hd_139 rfl ?_
          exact H
        · rw [if_neg hc4] at H
          exact absurd H id
  · intro hc1 H
    refine xo_0 rfl ?_
    refine xo_41 rfl ?_
    exact H
theorem sm_139_64_65_15 {x2 : Int32} {z0 : Int32} (H : (if z0 = 0 then am_X L xs d 139 2 [some (.ref 64), some (.ref 65), some (.int (x2 + 1))] [] am_C0 h o g Q T else Q (some (.int x2)) h o g)) : am_X L xs d 139 15 [some (.ref 64), some (.ref 65), some (.int x2)] [.int z0] am_C0 h o g Q T := by
  refine xo_10eq rfl (am_sp ?_ ?_ H)
  · intro hc1 H
    refine xo_9 (z := (x2 + 1)) (lv' := [some (.ref 64), some (.ref 65), some (.int (x2 + 1))]) rfl rfl rfl rfl rfl ?_
    refine xo_12 rfl ?_
    exact H
  · intro hc1 H
    refine xo_1 rfl rfl ?_
    refine xo_41 rfl ?_
    exact H
theorem sm_139_64_66 (H : am_X L xs d 139 2 [some (.ref 64), some (.ref 66), some (.int 0)] [] am_C0 h o g Q T) : am_X L xs d 139 0 [some (.ref 64), some (.ref 66), none] [] am_C0 h o g Q T := by
  refine xo_0 rfl ?_
  refine xo_4 (lv' := [some (.ref 64), some (.ref 66), some (.int 0)]) rfl rfl rfl ?_
  exact H
theorem sm_139_64_66_2 {x2 : Int32} (H : (if x2 < 4 then (if x2 = 0 then am_X L xs d 140 0 [some (.ref 64), some (.ref 1000014), none, none] [] am_C0 h o g (fun w h' o' g' => am_X L xs (d + 1) 139 15 [some (.ref 64), some (.ref 66), some (.int x2)] (w.toList ++ []) am_C0 h' o' g' Q T) T else (if x2 = 1 then am_X L xs d 140 0 [some (.ref 64), some (.ref 1000015), none, none] [] am_C0 h o g (fun w h' o' g' => am_X L xs (d + 1) 139 15 [some (.ref 64), some (.ref 66), some (.int x2)] (w.toList ++ []) am_C0 h' o' g' Q T) T else (if x2 = 2 then am_X L xs d 140 0 [some (.ref 64), some (.ref 1000016), none, none] [] am_C0 h o g (fun w h' o' g' => am_X L xs (d + 1) 139 15 [some (.ref 64), some (.ref 66), some (.int x2)] (w.toList ++ []) am_C0 h' o' g' Q T) T else (if x2 = 3 then am_X L xs d 140 0 [some (.ref 64), some (.ref 1000017), none, none] [] am_C0 h o g (fun w h' o' g' => am_X L xs (d + 1) 139 15 [some (.ref 64), some (.ref 66), some (.int x2)] (w.toList ++ []) am_C0 h' o' g' Q T) T else False)))) else Q (some (.int (-1))) h o g)) : am_X L xs (d + 1) 139 2 [some (.ref 64), some (.ref 66), some (.int x2)] [] am_C0 h o g Q T := by
  refine xo_1 rfl rfl ?_
  refine xo_2 rfl rfl ?_
  refine xo_27r (z := 4) rfl cb_66 rfl ?_
  refine xo_11ge rfl (am_sp ?_ ?_ H)
  · intro hc1 H
    refine xo_2 rfl rfl ?_
    refine xo_2 rfl rfl ?_
    refine xo_1 rfl rfl ?_
    by_cases hc2 : x2 = 0
    · rw [if_pos hc2] at H
      refine xo_20 (w := 1000014) rfl cb_66 (by rw [hc2]; exact am_ix.lit rfl) (by rw [hc2]; rfl) ?_
      refine cl_140_s rfl hd_139 rfl ?_
      exact H
    · rw [if_neg hc2] at H
      by_cases hc3 : x2 = 1
      · rw [if_pos hc3] at H
        refine xo_20 (w := 1000015) rfl cb_66 (by rw [hc3]; exact am_ix.lit rfl) (by rw [hc3]; rfl) ?_
        refine cl_140_s rfl hd_139 rfl ?_
        exact H
      · rw [if_neg hc3] at H
        by_cases hc4 : x2 = 2
        · rw [if_pos hc4] at H
          refine xo_20 (w := 1000016) rfl cb_66 (by rw [hc4]; exact am_ix.lit rfl) (by rw [hc4]; rfl) ?_
          refine cl_140_s rfl hd_139 rfl ?_
          exact H
        · rw [if_neg hc4] at H
          by_cases hc5 : x2 = 3
          · rw [if_pos hc5] at H
            refine xo_20 (w := 1000017) rfl cb_66 (by rw [hc5]; exact am_ix.lit rfl) (by rw [hc5]; rfl) ?_
            refine cl_140_s rfl hd_139 rfl ?_
            exact H
          · rw [if_neg hc5] at H
            exact absurd H id
  · intro hc1 H
    refine xo_0 rfl ?_
    refine xo_41 rfl ?_
    exact H
theorem sm_139_64_66_15 {x2 : Int32} {z0 : Int32} (H : (if z0 = 0 then am_X L xs d 139 2 [some (.ref 64), some (.ref 66), some (.int (x2 + 1))] [] am_C0 h o g Q T else Q (some (.int x2)) h o g)) : am_X L xs d 139 15 [some (.ref 64), some (.ref 66), some (.int x2)] [.int z0] am_C0 h o g Q T := by
  refine xo_10eq rfl (am_sp ?_ ?_ H)
  · intro hc1 H
    refine xo_9 (z := (x2 + 1)) (lv' := [some (.ref 64), some (.ref 66), some (.int (x2 + 1))]) rfl rfl rfl rfl rfl ?_
    refine xo_12 rfl ?_
    exact H
  · intro hc1 H
    refine xo_1 rfl rfl ?_
    refine xo_41 rfl ?_
    exact H
theorem sm_140 {ws : Nat} {tx : List Int32} (hs : am_sx ws) (ht : am_txt (ws - am_big) = tx) (H : (if (h 64 25) = 0 then (if (h 64 21) = 1 then (if (Int32.ofNat tx.length) = ((h 64 24) - (h 64 23)) then am_X L xs d 140 39 [some (.ref 64), some (.ref ws), some (.int 1), some (.int 0)] [] am_C0 h o g Q T else am_X L xs d 140 39 [some (.ref 64), some (.ref ws), some (.int 0), some (.int 0)] [] am_C0 h o g Q T) else am_X L xs d 140 39 [some (.ref 64), some (.ref ws), some (.int 0), some (.int 0)] [] am_C0 h o g Q T) else am_X L xs d 140 39 [some (.ref 64), some (.ref ws), some (.int 0), some (.int 0)] [] am_C0 h o g Q T)) : am_X L xs d 140 0 [some (.ref 64), some (.ref ws), none, none] [] am_C0 h o g Q T := by
  refine xo_2 rfl rfl ?_
  refine xo_13 rfl cf_64_25 ?_
  refine xo_10ne rfl (am_sp ?_ ?_ H)
  · intro hc1 H
    refine xo_2 rfl rfl ?_
    refine xo_13 rfl cf_64_21 ?_
    refine xo_0 rfl ?_
    refine xo_11ne rfl (am_sp ?_ ?_ H)
    · intro hc2 H
      refine xo_2 rfl rfl ?_
      refine xo_49w rfl hs ht (Nat.le_of_ble_eq_true rfl) ?_
      refine xo_2 rfl rfl ?_
      refine xo_13 rfl cf_64_24 ?_
      refine xo_2 rfl rfl ?_
      refine xo_13 rfl cf_64_23 ?_
      refine xo_7 rfl rfl ?_
      refine xo_11ne rfl (am_sp ?_ ?_ H)
      · intro hc3 H
        refine xo_0 rfl ?_
        refine xo_12 rfl ?_
        refine xo_4 (lv' := [some (.ref 64), some (.ref ws), some (.int 1), none]) rfl rfl rfl ?_
        refine xo_0 rfl ?_
        refine xo_4 (lv' := [some (.ref 64), some (.ref ws), some (.int 1), some (.int 0)]) rfl rfl rfl ?_
        exact H
      · intro hc3 H
        refine xo_0 rfl ?_
        refine xo_4 (lv' := [some (.ref 64), some (.ref ws), some (.int 0), none]) rfl rfl rfl ?_
        refine xo_0 rfl ?_
        refine xo_4 (lv' := [some (.ref 64), some (.ref ws), some (.int 0), some (.int 0)]) rfl rfl rfl ?_
        exact H
    · intro hc2 H
      refine xo_0 rfl ?_
      refine xo_4 (lv' := [some (.ref 64), some (.ref ws), some (.int 0), none]) rfl rfl rfl ?_
      refine xo_0 rfl ?_
      refine xo_4 (lv' := [some (.ref 64), some (.ref ws), some (.int 0), some (.int 0)]) rfl rfl rfl ?_
      exact H
  · intro hc1 H
    refine xo_0 rfl ?_
    refine xo_4 (lv' := [some (.ref 64), some (.ref ws), some (.int 0), none]) rfl rfl rfl ?_
    refine xo_0 rfl ?_
    refine xo_4 (lv' := [some (.ref 64), some (.ref ws), some (.int 0), some (.int 0)]) rfl rfl rfl ?_
    exact H
theorem sm_140_39 {x2 : Int32} {x3 : Int32} {ws : Nat} {tx : List Int32} (hs : am_sx ws) (ht : am_txt (ws - am_big) = tx) (H : (if x2 = 0 then (am_bit x2 = true ∧ Q (some (.int x2)) h o g) else (if x3 < (Int32.ofNat tx.length) then (am_ix x3 tx.length ∧ (am_ix ((h 64 23) + x3) 500 ∧ (if (tx.getD x3.toNatClampNeg 0) = (h 81 (((h 64 23) + x3).toNatClampNeg)) then am_X L xs d 140 39 [some (.ref 64), some (.ref ws), some (.int 1), some (.int (x3 + 1))] [] am_C0 h o g Q T else am_X L xs d 140 39 [some (.ref 64), some (.ref ws), some (.int 0), some (.int (x3 + 1))] [] am_C0 h o g Q T))) else (am_bit x2 = true ∧ Q (some (.int x2)) h o g)))) : am_X L xs d 140 39 [some (.ref 64), some (.ref ws), some (.int x2), some (.int x3)] [] am_C0 h o g Q T := by
  refine xo_1 rfl rfl ?_
  refine xo_10eq rfl (am_sp ?_ ?_ H)
  · intro hc1 H
    refine xo_1 rfl rfl ?_
    obtain ⟨hg2, H⟩ := H
    refine xo_42 rfl hg2 ?_
    exact H
  · intro hc1 H
    refine xo_1 rfl rfl ?_
    refine xo_2 rfl rfl ?_
    refine xo_49w rfl hs ht (Nat.le_of_ble_eq_true rfl) ?_
    refine xo_11ge rfl (am_sp ?_ ?_ H)
    · intro hc3 H
      refine xo_2 rfl rfl ?_
      refine xo_1 rfl rfl ?_
      obtain ⟨hg4, H⟩ := H
      refine xo_50w rfl hs ht hg4 (Nat.le_of_ble_eq_true rfl) ?_
      refine xo_2 rfl rfl ?_
      refine xo_13r rfl cr_64_17 ?_
      refine xo_2 rfl rfl ?_
      refine xo_13 rfl cf_64_23 ?_
      refine xo_1 rfl rfl ?_
      refine xo_7 rfl rfl ?_
      obtain ⟨hg5, H⟩ := H
      refine xo_17 rfl ca_81 hg5 ?_
      refine xo_11ne rfl (am_sp ?_ ?_ H)
      · intro hc6 H
        refine xo_0 rfl ?_
        refine xo_12 rfl ?_
        refine xo_4 (lv' := [some (.ref 64), some (.ref ws), some (.int 1), some (.int x3)]) rfl rfl rfl ?_
        refine xo_9 (z := (x3 + 1)) (lv' := [some (.ref 64), some (.ref ws), some (.int 1), some (.int (x3 + 1))]) rfl rfl rfl rfl rfl ?_
        refine xo_12 rfl ?_
        exact H
      · intro hc6 H
        refine xo_0 rfl ?_
        refine xo_4 (lv' := [some (.ref 64), some (.ref ws), some (.int 0), some (.int x3)]) rfl rfl rfl ?_
        refine xo_9 (z := (x3 + 1)) (lv' := [some (.ref 64), some (.ref ws), some (.int 0), some (.int (x3 + 1))]) rfl rfl rfl rfl rfl ?_
        refine xo_12 rfl ?_
        exact H
    · intro hc3 H
      refine xo_1 rfl rfl ?_
      obtain ⟨hg7, H⟩ := H
      refine xo_42 rfl hg7 ?_
      exact H
theorem sm_141 (H : am_X L xs d 142 0 [some (.ref 64), some (.int 0), some (.int 5)] [] am_C0 h o g (fun w h' o' g' => am_X L xs (d + 1) 141 6 [some (.ref 64), none] (w.toList ++ []) am_C0 h' o' g' Q T) T) : am_X L xs (d + 1) 141 0 [some (.ref 64), none] [] am_C0 h o g Q T := by
  refine xo_2 rfl rfl ?_
  refine xo_0 rfl ?_
  refine xo_0 rfl ?_
  refine cl_142_64 rfl hd_141 rfl ?_
  exact H
theorem sm_141_6 {q1 : Option Value} {z0 : Int32} (hq1 : am_nl q1 = true) (H : (if z0 = 0 then Q none h o g else am_X L xs d 144 0 [some (.ref 64), some (.int 0), some (.int 60), none] [] am_C0 h o g (fun w h' o' g' => am_X L xs (d + 1) 141 34 [some (.ref 64), some (.int ((5 + (h 68 7)) - 1))] (w.toList ++ [.int ((5 + (h 68 7)) - 1), .ref 69]) am_C0 h' o' g' Q T) T)) : am_X L xs (d + 1) 141 6 [some (.ref 64), q1] [.int z0] am_C0 h o g Q T := by
  refine xo_10ne rfl (am_sp ?_ ?_ H)
  · intro hc1 H
    refine xo_44 rfl ?_
    exact H
  · intro hc1 H
    refine xo_0 rfl ?_
    refine xo_2 rfl rfl ?_
    refine xo_13r rfl cr_64_4 ?_
    refine xo_0 rfl ?_
    refine xo_17 rfl ca_68 (am_ix.lit rfl) ?_
    refine xo_7 rfl rfl ?_
    refine xo_0 rfl ?_
    refine xo_7 rfl rfl ?_
    refine xo_4 (lv' := [some (.ref 64), some (.int ((5 + (h 68 7)) - 1))]) rfl rfl rfl ?_
    refine xo_2 rfl rfl ?_
    refine xo_13r rfl cr_64_5 ?_
    refine xo_1 rfl rfl ?_
    refine xo_2 rfl rfl ?_
    refine xo_0 rfl ?_
    refine xo_0 rfl ?_
    refine cl_144_64 rfl hd_141 rfl ?_
    exact H
theorem sm_141_34 {x1 : Int32} {z1 : Int32} {z2 : Int32} (H : (am_ix z1 10 ∧ (am_ix x1 10 ∧ am_X L xs d 144 0 [some (.ref 64), some (.int ((am_set h 69 z1.toNatClampNeg z2) 69 x1.toNatClampNeg)), some (.int 60), none] [] am_C0 (am_set h 69 z1.toNatClampNeg z2) o g (fun w h' o' g' => am_X L xs (d + 1) 141 52 [some (.ref 64), some (.int x1)] (w.toList ++ [.int x1, .ref 70]) am_C0 h' o' g' Q T) T))) : am_X L xs (d + 1) 141 34 [some (.ref 64), some (.int x1)] [.int z2, .int z1, .ref 69] am_C0 h o g Q T := by
  obtain ⟨hg1, H⟩ := H
  refine xo_22 rfl ca_69 hg1 ?_
  refine xo_2 rfl rfl ?_
  refine xo_13r rfl cr_64_6 ?_
  refine xo_1 rfl rfl ?_
  refine xo_2 rfl rfl ?_
  refine xo_2 rfl rfl ?_
  refine xo_13r rfl cr_64_5 ?_
  refine xo_1 rfl rfl ?_
  obtain ⟨hg2, H⟩ := H
  refine xo_17 rfl ca_69 hg2 ?_
  refine xo_0 rfl ?_
  refine cl_144_64 rfl hd_141 rfl ?_
  exact H
theorem sm_141_52 {x1 : Int32} {z1 : Int32} {z2 : Int32} (H : (am_ix z1 10 ∧ am_X L xs d 144 0 [some (.ref 64), some (.int 0), some (.int 23), none] [] am_C0 (am_set h 70 z1.toNatClampNeg z2) o g (fun w h' o' g' => am_X L xs (d + 1) 141 65 [some (.ref 64), some (.int x1)] (w.toList ++ [.int x1, .ref 71]) am_C0 h' o' g' Q T) T)) : am_X L xs (d + 1) 141 52 [some (.ref 64), some (.int x1)] [.int z2, .int z1, .ref 70] am_C0 h o g Q T := by
  obtain ⟨hg1, H⟩ := H
  refine xo_22 rfl ca_70 hg1 ?_
  refine xo_2 rfl rfl ?_
  refine xo_13r rfl cr_64_7 ?_
  refine xo_1 rfl rfl ?_
  refine xo_2 rfl rfl ?_
  refine xo_0 rfl ?_
  refine xo_0 rfl ?_
  refine cl_144_64 rfl hd_141 rfl ?_
  exact H
theorem sm_141_65 {x1 : Int32} {z1 : Int32} {z2 : Int32} (H : (am_ix z1 10 ∧ am_X L xs d 144 0 [some (.ref 64), some (.int 1), some (.int 12), none] [] am_C0 (am_set h 71 z1.toNatClampNeg z2) o g (fun w h' o' g' => am_X L xs (d + 1) 141 78 [some (.ref 64), some (.int x1)] (w.toList ++ [.int x1, .ref 72]) am_C0 h' o' g' Q T) T)) : am_X L xs (d + 1) 141 65 [some (.ref 64), some (.int x1)] [.int z2, .int z1, .ref 71] am_C0 h o g Q T := by
  obtain ⟨hg1, H⟩ := H
  refine xo_22 rfl ca_71 hg1 ?_
  refine xo_2 rfl rfl ?_
  refine xo_13r rfl cr_64_8 ?_
  refine xo_1 rfl rfl ?_
  refine xo_2 rfl rfl ?_
  refine xo_0 rfl ?_
  refine xo_0 rfl ?_
  refine cl_144_64 rfl hd_141 rfl ?_
  exact H
theorem sm_141_78 {x1 : Int32} {z1 : Int32} {z2 : Int32} (H : (am_ix z1 10 ∧ am_X L xs d 145 0 [some (.ref 64), some (.ref 1000019), none] [] am_C0 (am_set h 72 z1.toNatClampNeg z2) o g (fun w h' o' g' => am_X L xs (d + 1) 141 90 [some (.ref 64), some (.int x1)] (w.toList ++ [.int x1, .ref 73]) am_C0 h' o' g' Q T) T)) : am_X L xs (d + 1) 141 78 [some (.ref 64), some (.int x1)] [.int z2, .int z1, .ref 72] am_C0 h o g Q T := by
  obtain ⟨hg1, H⟩ := H
  refine xo_22 rfl ca_72 hg1 ?_
  refine xo_2 rfl rfl ?_
  refine xo_13r rfl cr_64_9 ?_
  refine xo_1 rfl rfl ?_
  refine xo_2 rfl rfl ?_
  refine xo_46 (k := 1000019) rfl rfl ?_
  refine cl_145_s rfl hd_141 rfl ?_
  exact H
theorem sm_141_90 {q1 : Option Value} {z1 : Int32} {z2 : Int32} (hq1 : am_nl q1 = true) (H : (if z2 = 0 then (am_ix z1 10 ∧ Q none (am_set h 73 z1.toNatClampNeg 0) o g) else am_X L xs d 144 0 [some (.ref 64), some (.int 0), some (.int 9), none] [] am_C0 h o g (fun w h' o' g' => am_X L xs (d + 1) 141 100 [some (.ref 64), q1] (w.toList ++ [.int z1, .ref 73]) am_C0 h' o' g' Q T) T)) : am_X L xs (d + 1) 141 90 [some (.ref 64), q1] [.int z2, .int z1, .ref 73] am_C0 h o g Q T := by
  refine xo_10eq rfl (am_sp ?_ ?_ H)
  · intro hc1 H
    refine xo_0 rfl ?_
    obtain ⟨hg2, H⟩ := H
    refine xo_22 rfl ca_73 hg2 ?_
    refine xo_44 rfl ?_
    exact H
  · intro hc1 H
    refine xo_2 rfl rfl ?_
    refine xo_0 rfl ?_
    refine xo_0 rfl ?_
    refine cl_144_64 rfl hd_141 rfl ?_
    exact H
theorem sm_141_100 {q0 : Option Value} {q1 : Option Value} {z1 : Int32} {z2 : Int32} (hq0 : am_nl q0 = true) (hq1 : am_nl q1 = true) (H : (am_ix z1 10 ∧ Q none (am_set h 73 z1.toNatClampNeg z2) o g)) : am_X L xs d 141 100 [q0, q1] [.int z2, .int z1, .ref 73] am_C0 h o g Q T := by
  refine xo_12 rfl ?_
  obtain ⟨hg1, H⟩ := H
  refine xo_22 rfl ca_73 hg1 ?_
  refine xo_44 rfl ?_
  exact H
theorem sm_142 {x1 : Int32} {x2 : Int32} (H : (am_ix (7 + x1) 14 ∧ (if (h 68 ((7 + x1).toNatClampNeg)) = x2 then (if (h 64 25) = 0 then Q (some (.int 0)) (am_set (am_set h 64 25 2) 64 26 (h 64 23)) o g else Q (some (.int 0)) h o g) else (if (h 64 25) = 0 then am_X L xs d 134 0 [some (.ref 64), none] [] am_C0 h o g (fun w h' o' g' => am_X L xs (d + 1) 142 31 [some (.ref 64), some (.int x1), some (.int x2)] (w.toList ++ []) am_C0 h' o' g' Q T) T else Q (some (.int 0)) h o g)))) : am_X L xs (d + 1) 142 0 [some (.ref 64), some (.int x1), some (.int x2)] [] am_C0 h o g Q T := by
  refine xo_2 rfl rfl ?_
  refine xo_13r rfl cr_64_4 ?_
  refine xo_0 rfl ?_
  refine xo_1 rfl rfl ?_
  refine xo_7 rfl rfl ?_
  obtain ⟨hg1, H⟩ := H
  refine xo_17 rfl ca_68 hg1 ?_
  refine xo_1 rfl rfl ?_
  refine xo_11ne rfl (am_sp ?_ ?_ H)
  · intro hc2 H
    refine xo_2 rfl rfl ?_
    refine xo_0 rfl ?_
    refine cl_143_64 rfl hd_142 rfl ?_
    refine xo_2 rfl rfl ?_
    refine xo_13 rfl cf_64_25 ?_
    refine xo_10eq rfl (am_sp ?_ ?_ H)
    · intro hc3 H
      refine xo_2 rfl rfl ?_
      refine xo_1 rfl rfl ?_
      refine xo_14 rfl cf_64_25 ?_
      refine xo_2 rfl rfl ?_
      refine xo_2 rfl rfl ?_
      refine xo_13 rfl cf_64_23 ?_
      refine xo_14 rfl cf_64_26 ?_
      refine xr_44 rfl ?_
      refine xo_2 rfl rfl ?_
      refine xo_13 rfl cf_64_25 ?_
      show am_X L xs (d + 1) 142 22 [some (.ref 64), some (.int x1), some (.int x2)] [.int 2] am_C0 (am_set (am_set h 64 25 2) 64 26 (h 64 23)) o g Q T
      refine xo_10n rfl (by decide) ?_
      refine xo_0 rfl ?_
      refine xo_42 rfl rfl ?_
      exact H
    · intro hc3 H
      refine xr_44 rfl ?_
      refine xo_2 rfl rfl ?_
      refine xo_13 rfl cf_64_25 ?_
      refine xo_10eq rfl (am_iff hc3 ?_)
      refine xo_0 rfl ?_
      refine xo_42 rfl rfl ?_
      exact H
  · intro hc2 H
    refine xo_2 rfl rfl ?_
    refine xo_13 rfl cf_64_25 ?_
    refine xo_10eq rfl (am_sp ?_ ?_ H)
    · intro hc4 H
      refine xo_2 rfl rfl ?_
      refine cl_134_64 rfl hd_142 rfl ?_
      exact H
    · intro hc4 H
      refine xo_0 rfl ?_
      refine xo_42 rfl rfl ?_
      exact H
theorem sm_142_31 {x1 : Int32} {q2 : Option Value} (hq2 : am_nl q2 = true) (H : (am_ix (7 + x1) 14 ∧ Q (some (.int 1)) (am_set h 68 ((7 + x1).toNatClampNeg) ((h 68 ((7 + x1).toNatClampNeg)) + 1)) o g)) : am_X L xs d 142 31 [some (.ref 64), some (.int x1), q2] [] am_C0 h o g Q T := by
  refine xo_2 rfl rfl ?_
  refine xo_13r rfl cr_64_4 ?_
  refine xo_0 rfl ?_
  refine xo_1 rfl rfl ?_
  refine xo_7 rfl rfl ?_
  refine xo_29 rfl ⟨rfl, rfl⟩ ?_
  obtain ⟨hg1, H⟩ := H
  refine xo_17 rfl ca_68 hg1 ?_
  refine xo_0 rfl ?_
  refine xo_7 rfl rfl ?_
  refine xo_22 rfl ca_68 hg1 ?_
  refine xo_0 rfl ?_
  refine xo_42 rfl rfl ?_
  exact H
theorem sm_144 {x1 : Int32} {x2 : Int32} (H : (if (h 64 25) = 0 then (if (h 64 21) = 2 then (if 3 < ((h 64 24) - (h 64 23)) then Q (some (.int (h 64 22))) (am_set (am_set h 64 25 2) 64 26 (h 64 23)) o g else (if (h 64 22) < x1 then Q (some (.int (h 64 22))) (am_set (am_set h 64 25 2) 64 26 (h 64 23)) o g else (if x2 < (h 64 22) then Q (some (.int (h 64 22))) (am_set (am_set h 64 25 2) 64 26 (h 64 23)) o g else am_X L xs d 134 0 [some (.ref 64), none] [] am_C0 h o g (fun w h' o' g' => am_X L xs (d + 1) 144 75 [some (.ref 64), some (.int x1), some (.int x2), some (.int (h 64 22))] (w.toList ++ []) am_C0 h' o' g' Q T) T))) else Q (some (.int (h 64 22))) (am_set (am_set h 64 25 1) 64 26 (h 64 23)) o g) else Q (some (.int 0)) h o g)) : am_X L xs (d + 1) 144 0 [some (.ref 64), some (.int x1), some (.int x2), none] [] am_C0 h o g Q T := by
  refine xo_2 rfl rfl ?_
  refine xo_13 rfl cf_64_25 ?_
  refine xo_10eq rfl (am_sp ?_ ?_ H)
  · intro hc1 H
    refine xo_2 rfl rfl ?_
    refine xo_13 rfl cf_64_21 ?_
    refine xo_0 rfl ?_
    refine xo_11eq rfl (am_sp ?_ ?_ H)
    · intro hc2 H
      refine xo_2 rfl rfl ?_
      refine xo_13 rfl cf_64_24 ?_
      refine xo_2 rfl rfl ?_
      refine xo_13 rfl cf_64_23 ?_
      refine xo_7 rfl rfl ?_
      refine xo_0 rfl ?_
      refine xo_11gt rfl (am_sp ?_ ?_ H)
      · intro hc3 H
        refine xo_2 rfl rfl ?_
        refine xo_0 rfl ?_
        refine cl_143_64 rfl hd_144 rfl ?_
        refine xo_2 rfl rfl ?_
        refine xo_13 rfl cf_64_25 ?_
        refine xo_10eq rfl (am_ift hc1 ?_)
        refine xo_2 rfl rfl ?_
        refine xo_1 rfl rfl ?_
        refine xo_14 rfl cf_64_25 ?_
        refine xo_2 rfl rfl ?_
        refine xo_2 rfl rfl ?_
        refine xo_13 rfl cf_64_23 ?_
        refine xo_14 rfl cf_64_26 ?_
        refine xr_44 rfl ?_
        refine xo_2 rfl rfl ?_
        refine xo_13 rfl cf_64_22 ?_
        refine xo_4 (lv' := [some (.ref 64), some (.int x1), some (.int x2), some (.int (h 64 22))]) rfl rfl rfl ?_
        refine xo_2 rfl rfl ?_
        refine xo_13 rfl cf_64_25 ?_
        show am_X L xs (d + 1) 144 68 [some (.ref 64), some (.int x1), some (.int x2), some (.int (h 64 22))] [.int 2] am_C0 (am_set (am_set h 64 25 2) 64 26 (h 64 23)) o g Q T
        refine xo_10 rfl (by decide) ?_
        refine xo_1 rfl rfl ?_
        refine xo_41 rfl ?_
        exact H
      · intro hc3 H
        refine xo_2 rfl rfl ?_
        refine xo_13 rfl cf_64_22 ?_
        refine xo_1 rfl rfl ?_
        refine xo_11lt rfl (am_sp ?_ ?_ H)
        · intro hc4 H
          refine xo_2 rfl rfl ?_
          refine xo_0 rfl ?_
          refine cl_143_64 rfl hd_144 rfl ?_
          refine xo_2 rfl rfl ?_
          refine xo_13 rfl cf_64_25 ?_
          refine xo_10eq rfl (am_ift hc1 ?_)
          refine xo_2 rfl rfl ?_
          refine xo_1 rfl rfl ?_
          refine xo_14 rfl cf_64_25 ?_
          refine xo_2 rfl rfl ?_
          refine xo_2 rfl rfl ?_
          refine xo_13 rfl cf_64_23 ?_
          refine xo_14 rfl cf_64_26 ?_
          refine xr_44 rfl ?_
          refine xo_2 rfl rfl ?_
          refine xo_13 rfl cf_64_22 ?_
          refine xo_4 (lv' := [some (.ref 64), some (.int x1), some (.int x2), some (.int (h 64 22))]) rfl rfl rfl ?_
          refine xo_2 rfl rfl ?_
          refine xo_13 rfl cf_64_25 ?_
          show am_X L xs (d + 1) 144 68 [some (.ref 64), some (.int x1), some (.int x2), some (.int (h 64 22))] [.int 2] am_C0 (am_set (am_set h 64 25 2) 64 26 (h 64 23)) o g Q T
          refine xo_10 rfl (by decide) ?_
          refine xo_1 rfl rfl ?_
          refine xo_41 rfl ?_
          exact H
        · intro hc4 H
          refine xo_2 rfl rfl ?_
          refine xo_13 rfl cf_64_22 ?_
          refine xo_1 rfl rfl ?_
          refine xo_11le rfl (am_sp ?_ ?_ H)
          · intro hc5 H
            refine xo_2 rfl rfl ?_
            refine xo_0 rfl ?_
            refine cl_143_64 rfl hd_144 rfl ?_
            refine xo_2 rfl rfl ?_
            refine xo_13 rfl cf_64_25 ?_
            refine xo_10eq rfl (am_ift hc1 ?_)
            refine xo_2 rfl rfl ?_
            refine xo_1 rfl rfl ?_
            refine xo_14 rfl cf_64_25 ?_
            refine xo_2 rfl rfl ?_
            refine xo_2 rfl rfl ?_
            refine xo_13 rfl cf_64_23 ?_
            refine xo_14 rfl cf_64_26 ?_
            refine xr_44 rfl ?_
            refine xo_2 rfl rfl ?_
            refine xo_13 rfl cf_64_22 ?_
            refine xo_4 (lv' := [some (.ref 64), some (.int x1), some (.int x2), some (.int (h 64 22))]) rfl rfl rfl ?_
            refine xo_2 rfl rfl ?_
            refine xo_13 rfl cf_64_25 ?_
            show am_X L xs (d + 1) 144 68 [some (.ref 64), some (.int x1), some (.int x2), some (.int (h 64 22))] [.int 2] am_C0 (am_set (am_set h 64 25 2) 64 26 (h 64 23)) o g Q T
            refine xo_10 rfl (by decide) ?_
            refine xo_1 rfl rfl ?_
            refine xo_41 rfl ?_
            exact H
          · intro hc5 H
            refine xo_2 rfl rfl ?_
            refine xo_13 rfl cf_64_22 ?_
            refine xo_4 (lv' := [some (.ref 64), some (.int x1), some (.int x2), some (.int (h 64 22))]) rfl rfl rfl ?_
            refine xo_2 rfl rfl ?_
            refine xo_13 rfl cf_64_25 ?_
            refine xo_10ne rfl (am_ift hc1 ?_)
            refine xo_2 rfl rfl ?_
            refine cl_134_64 rfl hd_144 rfl ?_
            exact H
    · intro hc2 H
      refine xo_2 rfl rfl ?_
      refine xo_0 rfl ?_
      refine cl_143_64 rfl hd_144 rfl ?_
      refine xo_2 rfl rfl ?_
      refine xo_13 rfl cf_64_25 ?_
      refine xo_10eq rfl (am_ift hc1 ?_)
      refine xo_2 rfl rfl ?_
      refine xo_1 rfl rfl ?_
      refine xo_14 rfl cf_64_25 ?_
      refine xo_2 rfl rfl ?_
      refine xo_2 rfl rfl ?_
      refine xo_13 rfl cf_64_23 ?_
      refine xo_14 rfl cf_64_26 ?_
      refine xr_44 rfl ?_
      refine xo_12 rfl ?_
      refine xo_2 rfl rfl ?_
      refine xo_13 rfl cf_64_22 ?_
      refine xo_4 (lv' := [some (.ref 64), some (.int x1), some (.int x2), some (.int (h 64 22))]) rfl rfl rfl ?_
      refine xo_2 rfl rfl ?_
      refine xo_13 rfl cf_64_25 ?_
      show am_X L xs (d + 1) 144 68 [some (.ref 64), some (.int x1), some (.int x2), some (.int (h 64 22))] [.int 1] am_C0 (am_set (am_set h 64 25 1) 64 26 (h 64 23)) o g Q T
      refine xo_10 rfl (by decide) ?_
      refine xo_1 rfl rfl ?_
      refine xo_41 rfl ?_
      exact H
  · intro hc1 H
    refine xo_0 rfl ?_
    refine xo_41 rfl ?_
    exact H
theorem sm_144_75 {q0 : Option Value} {q1 : Option Value} {q2 : Option Value} {x3 : Int32} (hq0 : am_nl q0 = true) (hq1 : am_nl q1 = true) (hq2 : am_nl q2 = true) (H : Q (some (.int x3)) h o g) : am_X L xs d 144 75 [q0, q1, q2, some (.int x3)] [] am_C0 h o g Q T := by
  refine xo_1 rfl rfl ?_
  refine xo_41 rfl ?_
  exact H
theorem sm_145 {ws : Nat} {tx : List Int32} (hs : am_sx ws) (ht : am_txt (ws - am_big) = tx) (H : am_X L xs d 140 0 [some (.ref 64), some (.ref ws), none, none] [] am_C0 h o g (fun w h' o' g' => am_X L xs (d + 1) 145 5 [some (.ref 64), some (.ref ws), none] (w.toList ++ []) am_C0 h' o' g' Q T) T) : am_X L xs (d + 1) 145 0 [some (.ref 64), some (.ref ws), none] [] am_C0 h o g Q T := by
  refine xo_2 rfl rfl ?_
  refine xo_2 rfl rfl ?_
  refine cl_140_s rfl hd_145 rfl ?_
  exact H
theorem sm_145_5 {q1 : Option Value} {q2 : Option Value} {z0 : Int32} {ws : Nat} {tx : List Int32} (hs : am_sx ws) (ht : am_txt (ws - am_big) = tx) (hq1 : am_nl q1 = true) (hq2 : am_nl q2 = true) (H : (if z0 = 0 then (am_bit z0 = true ∧ Q (some (.int z0)) h o g) else am_X L xs d 134 0 [some (.ref 64), none] [] am_C0 h o g (fun w h' o' g' => am_X L xs (d + 1) 145 14 [some (.ref 64), q1, some (.int z0)] (w.toList ++ []) am_C0 h' o' g' Q T) T)) : am_X L xs (d + 1) 145 5 [some (.ref 64), q1, q2] [.int z0] am_C0 h o g Q T := by
  refine xo_4 (lv' := [some (.ref 64), q1, some (.int z0)]) rfl hq1 rfl ?_
  refine xo_1 rfl rfl ?_
  refine xo_10eq rfl (am_sp ?_ ?_ H)
  · intro hc1 H
    refine xo_1 rfl rfl ?_
    obtain ⟨hg2, H⟩ := H
    refine xo_42 rfl hg2 ?_
    exact H
  · intro hc1 H
    refine xo_2 rfl rfl ?_
    refine cl_134_64 rfl hd_145 rfl ?_
    exact H
theorem sm_145_14 {q0 : Option Value} {q1 : Option Value} {x2 : Int32} {ws : Nat} {tx : List Int32} (hs : am_sx ws) (ht : am_txt (ws - am_big) = tx) (hq0 : am_nl q0 = true) (hq1 : am_nl q1 = true) (H : (am_bit x2 = true ∧ Q (some (.int x2)) h o g)) : am_X L xs d 145 14 [q0, q1, some (.int x2)] [] am_C0 h o g Q T := by
  refine xo_1 rfl rfl ?_
  obtain ⟨hg1, H⟩ := H
  refine xo_42 rfl hg1 ?_
  exact H
theorem sm_146 {x1 : Int32} (H : am_X L xs d 142 0 [some (.ref 64), some (.int 2), some (.int 5)] [] am_C0 h o g (fun w h' o' g' => am_X L xs (d + 1) 146 6 [some (.ref 64), some (.int x1), none] (w.toList ++ []) am_C0 h' o' g' Q T) T) : am_X L xs (d + 1) 146 0 [some (.ref 64), some (.int x1), none] [] am_C0 h o g Q T := by
  refine xo_2 rfl rfl ?_
  refine xo_0 rfl ?_
  refine xo_0 rfl ?_
  refine cl_142_64 rfl hd_146 rfl ?_
  exact H
theorem sm_146_6 {x1 : Int32} {q2 : Option Value} {z0 : Int32} (hq2 : am_nl q2 = true) (H : (if z0 = 0 then Q none h o g else (am_ix ((5 + (h 68 9)) - 1) 10 ∧ am_X L xs d 144 0 [some (.ref 64), some (.int 0), some (.int 99), none] [] am_C0 (am_set h 74 (((5 + (h 68 9)) - 1).toNatClampNeg) x1) o g (fun w h' o' g' => am_X L xs (d + 1) 146 41 [some (.ref 64), some (.int x1), some (.int ((5 + (h 68 9)) - 1))] (w.toList ++ [.int ((5 + (h 68 9)) - 1), .ref 75]) am_C0 h' o' g' Q T) T))) : am_X L xs (d + 1) 146 6 [some (.ref 64), some (.int x1), q2] [.int z0] am_C0 h o g Q T := by
  refine xo_10ne rfl (am_sp ?_ ?_ H)
  · intro hc1 H
    refine xo_44 rfl ?_
    exact H
  · intro hc1 H
    refine xo_0 rfl ?_
    refine xo_2 rfl rfl ?_
    refine xo_13r rfl cr_64_4 ?_
    refine xo_0 rfl ?_
    refine xo_17 rfl ca_68 (am_ix.lit rfl) ?_
    refine xo_7 rfl rfl ?_
    refine xo_0 rfl ?_
    refine xo_7 rfl rfl ?_
    refine xo_4 (lv' := [some (.ref 64), some (.int x1), some (.int ((5 + (h 68 9)) - 1))]) rfl rfl rfl ?_
    refine xo_2 rfl rfl ?_
    refine xo_13r rfl cr_64_10 ?_
    refine xo_1 rfl rfl ?_
    refine xo_1 rfl rfl ?_
    obtain ⟨hg2, H⟩ := H
    refine xo_22 rfl ca_74 hg2 ?_
    refine xo_2 rfl rfl ?_
    refine xo_13r rfl cr_64_11 ?_
    refine xo_1 rfl rfl ?_
    refine xo_2 rfl rfl ?_
    refine xo_0 rfl ?_
    refine xo_0 rfl ?_
    refine cl_144_64 rfl hd_146 rfl ?_
    exact H
theorem sm_146_41 {q1 : Option Value} {x2 : Int32} {z1 : Int32} {z2 : Int32} (hq1 : am_nl q1 = true) (H : (am_ix z1 10 ∧ am_X L xs d 145 0 [some (.ref 64), some (.ref 1000021), none] [] am_C0 (am_set h 75 z1.toNatClampNeg z2) o g (fun w h' o' g' => am_X L xs (d + 1) 146 53 [some (.ref 64), q1, some (.int x2)] (w.toList ++ [.int x2, .ref 76]) am_C0 h' o' g' Q T) T)) : am_X L xs (d + 1) 146 41 [some (.ref 64), q1, some (.int x2)] [.int z2, .int z1, .ref 75] am_C0 h o g Q T := by
  obtain ⟨hg1, H⟩ := H
  refine xo_22 rfl ca_75 hg1 ?_
  refine xo_2 rfl rfl ?_
  refine xo_13r rfl cr_64_12 ?_
  refine xo_1 rfl rfl ?_
  refine xo_2 rfl rfl ?_
  refine xo_46 (k := 1000021) rfl rfl ?_
  refine cl_145_s rfl hd_146 rfl ?_
  exact H
theorem sm_146_53 {q1 : Option Value} {q2 : Option Value} {z1 : Int32} {z2 : Int32} (hq1 : am_nl q1 = true) (hq2 : am_nl q2 = true) (H : (if z2 = 0 then (am_ix z1 10 ∧ Q none (am_set h 76 z1.toNatClampNeg 0) o g) else am_X L xs d 144 0 [some (.ref 64), some (.int 0), some (.int 9), none] [] am_C0 h o g (fun w h' o' g' => am_X L xs (d + 1) 146 63 [some (.ref 64), q1, q2] (w.toList ++ [.int z1, .ref 76]) am_C0 h' o' g' Q T) T)) : am_X L xs (d + 1) 146 53 [some (.ref 64), q1, q2] [.int z2, .int z1, .ref 76] am_C0 h o g Q T := by
  refine xo_10eq rfl (am_sp ?_ ?_ H)
  · intro hc1 H
    refine xo_0 rfl ?_
    obtain ⟨hg2, H⟩ := H
    refine xo_22 rfl ca_76 hg2 ?_
    refine xo_44 rfl ?_
    exact H
  · intro hc1 H
    refine xo_2 rfl rfl ?_
    refine xo_0 rfl ?_
    refine xo_0 rfl ?_
    refine cl_144_64 rfl hd_146 rfl ?_
    exact H
theorem sm_146_63 {q0 : Option Value} {q1 : Option Value} {q2 : Option Value} {z1 : Int32} {z2 : Int32} (hq0 : am_nl q0 = true) (hq1 : am_nl q1 = true) (hq2 : am_nl q2 = true) (H : (am_ix z1 10 ∧ Q none (am_set h 76 z1.toNatClampNeg z2) o g)) : am_X L xs d 146 63 [q0, q1, q2] [.int z2, .int z1, .ref 76] am_C0 h o g Q T := by
  refine xo_12 rfl ?_
  obtain ⟨hg1, H⟩ := H
  refine xo_22 rfl ca_76 hg1 ?_
  refine xo_44 rfl ?_
  exact H
theorem sm_148 (H : Q (some (.int (h 64 27))) (am_set h 64 3 0) o g) : am_X L xs d 148 0 [some (.ref 64)] [] am_C0 h o g Q T := by
  refine xo_2 rfl rfl ?_
  refine xo_0 rfl ?_
  refine xo_14 rfl cf_64_3 ?_
  refine xo_2 rfl rfl ?_
  refine xo_13 rfl cf_64_27 ?_
  refine xo_41 rfl ?_
  exact H
theorem sm_149 {x1 : Int32} (H : (if x1 < 0 then (if x1 = 7 then Q (some (.int (h 64 28))) (am_set h 64 3 0) o g else (if x1 = 8 then Q (some (.int (h 64 18))) (am_set h 64 3 0) o g else (if x1 = 9 then (am_ix (x1 - 9) 3 ∧ Q (some (.int (h 78 ((x1 - 9).toNatClampNeg)))) (am_set h 64 3 0) o g) else (if x1 = 10 then (am_ix (x1 - 9) 3 ∧ Q (some (.int (h 78 ((x1 - 9).toNatClampNeg)))) (am_set h 64 3 0) o g) else (if x1 = 11 then (am_ix (x1 - 9) 3 ∧ Q (some (.int (h 78 ((x1 - 9).toNatClampNeg)))) (am_set h 64 3 0) o g) else Q (some (.int 0)) (am_set (am_set h 64 3 0) 64 3 1) o g))))) else (if 6 < x1 then (if x1 = 7 then Q (some (.int (h 64 28))) (am_set h 64 3 0) o g else (if x1 = 8 then Q (some (.int (h 64 18))) (am_set h 64 3 0) o g else (if x1 = 9 then (am_ix (x1 - 9) 3 ∧ Q (some (.int (h 78 ((x1 - 9).toNatClampNeg)))) (am_set h 64 3 0) o g) else (if x1 = 10 then (am_ix (x1 - 9) 3 ∧ Q (some (.int (h 78 ((x1 - 9).toNatClampNeg)))) (am_set h 64 3 0) o g) else (if x1 = 11 then (am_ix (x1 - 9) 3 ∧ Q (some (.int (h 78 ((x1 - 9).toNatClampNeg)))) (am_set h 64 3 0) o g) else Q (some (.int 0)) (am_set (am_set h 64 3 0) 64 3 1) o g))))) else (am_ix x1 14 ∧ Q (some (.int (h 68 x1.toNatClampNeg))) (am_set h 64 3 0) o g)))) : am_X L xs (d + 1) 149 0 [some (.ref 64), some (.int x1)] [] am_C0 h o g Q T := by
  refine xo_2 rfl rfl ?_
  refine xo_0 rfl ?_
  refine xo_14 rfl cf_64_3 ?_
  refine xo_1 rfl rfl ?_
  refine xo_0 rfl ?_
  refine xo_0 rfl ?_
  refine cl_150 rfl hd_149 rfl ?_
  refine xo_1 rfl rfl ?_
  refine xo_1 rfl rfl ?_
  refine xo_11lt rfl (am_sp ?_ ?_ H)
  · intro hc1 H
    refine xo_0 rfl ?_
    refine xr_42 rfl rfl ?_
    refine xo_10 rfl (by decide) ?_
    refine xo_1 rfl rfl ?_
    by_cases hc2 : x1 = 7
    · rw [if_pos hc2] at H
      refine xo_52 (t := 56) rfl (by rw [hc2]; rfl) ?_
      refine xo_2 rfl rfl ?_
      refine xo_13 rfl cf_64_28 ?_
      refine xo_41 rfl ?_
      exact H
    · rw [if_neg hc2] at H
      by_cases hc3 : x1 = 8
      · rw [if_pos hc3] at H
        refine xo_52 (t := 61) rfl (by rw [hc3]; rfl) ?_
        refine xo_2 rfl rfl ?_
        refine xo_13 rfl cf_64_18 ?_
        refine xo_41 rfl ?_
        exact H
      · rw [if_neg hc3] at H
        by_cases hc4 : x1 = 9
        · rw [if_pos hc4] at H
          refine xo_52 (t := 66) rfl (by rw [hc4]; rfl) ?_
          refine xo_2 rfl rfl ?_
          refine xo_13r rfl cr_64_14 ?_
          refine xo_1 rfl rfl ?_
          refine xo_0 rfl ?_
          refine xo_7 rfl rfl ?_
          obtain ⟨hg5, H⟩ := H
          refine xo_17 rfl ca_78 hg5 ?_
          refine xo_41 rfl ?_
          exact H
        · rw [if_neg hc4] at H
          by_cases hc6 : x1 = 10
          · rw [if_pos hc6] at H
            refine xo_52 (t := 66) rfl (by rw [hc6]; rfl) ?_
            refine xo_2 rfl rfl ?_
            refine xo_13r rfl cr_64_14 ?_
            refine xo_1 rfl rfl ?_
            refine xo_0 rfl ?_
            refine xo_7 rfl rfl ?_
            obtain ⟨hg7, H⟩ := H
            refine xo_17 rfl ca_78 hg7 ?_
            refine xo_41 rfl ?_
            exact H
          · rw [if_neg hc6] at H
            by_cases hc8 : x1 = 11
            · rw [if_pos hc8] at H
              refine xo_52 (t := 66) rfl (by rw [hc8]; rfl) ?_
              refine xo_2 rfl rfl ?_
              refine xo_13r rfl cr_64_14 ?_
              refine xo_1 rfl rfl ?_
              refine xo_0 rfl ?_
              refine xo_7 rfl rfl ?_
              obtain ⟨hg9, H⟩ := H
              refine xo_17 rfl ca_78 hg9 ?_
              refine xo_41 rfl ?_
              exact H
            · rw [if_neg hc8] at H
              refine xo_52 (t := 76) rfl ?_ ?_
              · have e0 : ¬ (x1).toInt = 7 := fun e => hc2 (Int32.toInt_inj.mp e)
                have e1 : ¬ (x1).toInt = 8 := fun e => hc3 (Int32.toInt_inj.mp e)
                have e2 : ¬ (x1).toInt = 9 := fun e => hc4 (Int32.toInt_inj.mp e)
                have e3 : ¬ (x1).toInt = 10 := fun e => hc6 (Int32.toInt_inj.mp e)
                have e4 : ¬ (x1).toInt = 11 := fun e => hc8 (Int32.toInt_inj.mp e)
                rw [if_pos (by show (x1).toInt < 7 ∨ 11 < (x1).toInt; omega)]
                rfl
              · refine xo_2 rfl rfl ?_
                refine xo_0 rfl ?_
                refine cl_133_64 rfl hd_149 rfl ?_
                refine xo_2 rfl rfl ?_
                refine xo_1 rfl rfl ?_
                refine xo_14 rfl cf_64_3 ?_
                refine xo_0 rfl ?_
                refine xr_41 rfl ?_
                refine xo_41 rfl ?_
                exact H
  · intro hc1 H
    refine xo_1 rfl rfl ?_
    refine xo_1 rfl rfl ?_
    refine xo_11gt rfl (am_sp ?_ ?_ H)
    · intro hc10 H
      refine xo_0 rfl ?_
      refine xr_42 rfl rfl ?_
      refine xo_10 rfl (by decide) ?_
      refine xo_1 rfl rfl ?_
      by_cases hc11 : x1 = 7
      · rw [if_pos hc11] at H
        refine xo_52 (t := 56) rfl (by rw [hc11]; rfl) ?_
        refine xo_2 rfl rfl ?_
        refine xo_13 rfl cf_64_28 ?_
        refine xo_41 rfl ?_
        exact H
      · rw [if_neg hc11] at H
        by_cases hc12 : x1 = 8
        · rw [if_pos hc12] at H
          refine xo_52 (t := 61) rfl (by rw [hc12]; rfl) ?_
          refine xo_2 rfl rfl ?_
          refine xo_13 rfl cf_64_18 ?_
          refine xo_41 rfl ?_
          exact H
        · rw [if_neg hc12] at H
          by_cases hc13 : x1 = 9
          · rw [if_pos hc13] at H
            refine xo_52 (t := 66) rfl (by rw [hc13]; rfl) ?_
            refine xo_2 rfl rfl ?_
            refine xo_13r rfl cr_64_14 ?_
            refine xo_1 rfl rfl ?_
            refine xo_0 rfl ?_
            refine xo_7 rfl rfl ?_
            obtain ⟨hg14, H⟩ := H
            refine xo_17 rfl ca_78 hg14 ?_
            refine xo_41 rfl ?_
            exact H
          · rw [if_neg hc13] at H
            by_cases hc15 : x1 = 10
            · rw [if_pos hc15] at H
              refine xo_52 (t := 66) rfl (by rw [hc15]; rfl) ?_
              refine xo_2 rfl rfl ?_
              refine xo_13r rfl cr_64_14 ?_
              refine xo_1 rfl rfl ?_
              refine xo_0 rfl ?_
              refine xo_7 rfl rfl ?_
              obtain ⟨hg16, H⟩ := H
              refine xo_17 rfl ca_78 hg16 ?_
              refine xo_41 rfl ?_
              exact H
            · rw [if_neg hc15] at H
              by_cases hc17 : x1 = 11
              · rw [if_pos hc17] at H
                refine xo_52 (t := 66) rfl (by rw [hc17]; rfl) ?_
                refine xo_2 rfl rfl ?_
                refine xo_13r rfl cr_64_14 ?_
                refine xo_1 rfl rfl ?_
                refine xo_0 rfl ?_
                refine xo_7 rfl rfl ?_
                obtain ⟨hg18, H⟩ := H
                refine xo_17 rfl ca_78 hg18 ?_
                refine xo_41 rfl ?_
                exact H
              · rw [if_neg hc17] at H
                refine xo_52 (t := 76) rfl ?_ ?_
                · have e0 : ¬ (x1).toInt = 7 := fun e => hc11 (Int32.toInt_inj.mp e)
                  have e1 : ¬ (x1).toInt = 8 := fun e => hc12 (Int32.toInt_inj.mp e)
                  have e2 : ¬ (x1).toInt = 9 := fun e => hc13 (Int32.toInt_inj.mp e)
                  have e3 : ¬ (x1).toInt = 10 := fun e => hc15 (Int32.toInt_inj.mp e)
                  have e4 : ¬ (x1).toInt = 11 := fun e => hc17 (Int32.toInt_inj.mp e)
                  rw [if_pos (by show (x1).toInt < 7 ∨ 11 < (x1).toInt; omega)]
                  rfl
                · refine xo_2 rfl rfl ?_
                  refine xo_0 rfl ?_
                  refine cl_133_64 rfl hd_149 rfl ?_
                  refine xo_2 rfl rfl ?_
                  refine xo_1 rfl rfl ?_
                  refine xo_14 rfl cf_64_3 ?_
                  refine xo_0 rfl ?_
                  refine xr_41 rfl ?_
                  refine xo_41 rfl ?_
                  exact H
    · intro hc10 H
      refine xo_0 rfl ?_
      refine xo_12 rfl ?_
      refine xr_42 rfl rfl ?_
      refine xo_10n rfl (by decide) ?_
      refine xo_2 rfl rfl ?_
      refine xo_13r rfl cr_64_4 ?_
      refine xo_1 rfl rfl ?_
      obtain ⟨hg19, H⟩ := H
      refine xo_17 rfl ca_68 hg19 ?_
      refine xo_41 rfl ?_
      exact H
theorem sm_151 {x1 : Int32} {x2 : Int32} (H : (if x1 < 0 then Q (some (.int 0)) (am_set (am_set h 64 3 0) 64 3 1) o g else (if ((h 68 0) - 1) < x1 then Q (some (.int 0)) (am_set (am_set h 64 3 0) 64 3 1) o g else (if x2 = 0 then (am_ix x1 10 ∧ Q (some (.int (h 69 x1.toNatClampNeg))) (am_set h 64 3 0) o g) else (if x2 = 1 then (am_ix x1 10 ∧ Q (some (.int (h 70 x1.toNatClampNeg))) (am_set h 64 3 0) o g) else (if x2 = 2 then (am_ix x1 10 ∧ Q (some (.int (h 71 x1.toNatClampNeg))) (am_set h 64 3 0) o g) else (if x2 = 3 then (am_ix x1 10 ∧ Q (some (.int (h 72 x1.toNatClampNeg))) (am_set h 64 3 0) o g) else (if x2 = 4 then (am_ix x1 10 ∧ Q (some (.int (h 73 x1.toNatClampNeg))) (am_set h 64 3 0) o g) else (if x2 = 5 then (am_ix x1 5 ∧ Q (some (.int (h 77 x1.toNatClampNeg))) (am_set h 64 3 0) o g) else (if x2 = 6 then am_X L xs (d + 1) 153 0 [some (.ref 64), some (.int x1), none] [] am_C0 (am_set h 64 3 0) o g (fun w h' o' g' => am_X L xs (d + 2) 151 115 [some (.ref 64), some (.int x1), some (.int x2)] (w.toList ++ []) am_C0 h' o' g' Q T) T else (if x2 = 7 then am_X L xs (d + 1) 153 0 [some (.ref 64), some (.int x1), none] [] am_C0 (am_set h 64 3 0) o g (fun w h' o' g' => am_X L xs (d + 2) 151 115 [some (.ref 64), some (.int x1), some (.int x2)] (w.toList ++ []) am_C0 h' o' g' Q T) T else Q (some (.int 0)) (am_set (am_set h 64 3 0) 64 3 1) o g))))))))))) : am_X L xs (d + 2) 151 0 [some (.ref 64), some (.int x1), some (.int x2)] [] am_C0 h o g Q T := by
  refine xo_2 rfl rfl ?_
  refine xo_0 rfl ?_
  refine xo_14 rfl cf_64_3 ?_
  refine xo_2 rfl rfl ?_
  refine xo_1 rfl rfl ?_
  refine cl_152_64 rfl hd_151 rfl ?_
  refine xo_1 rfl rfl ?_
  refine xo_0 rfl ?_
  refine xo_2 rfl rfl ?_
  refine xo_13r rfl cr_64_4 ?_
  refine xo_0 rfl ?_
  refine xo_17 rfl ca_68 (am_ix.lit rfl) ?_
  refine xo_0 rfl ?_
  refine xo_7 rfl rfl ?_
  refine cl_150 rfl hd_152 rfl ?_
  refine xo_1 rfl rfl ?_
  refine xo_1 rfl rfl ?_
  refine xo_11lt rfl (am_sp ?_ ?_ H)
  · intro hc1 H
    refine xo_0 rfl ?_
    refine xr_42 rfl rfl ?_
    refine xr_42 rfl rfl ?_
    refine xo_10n rfl (by decide) ?_
    refine xo_2 rfl rfl ?_
    refine xo_0 rfl ?_
    refine cl_133_64 rfl hd_151 rfl ?_
    refine xo_2 rfl rfl ?_
    refine xo_1 rfl rfl ?_
    refine xo_14 rfl cf_64_3 ?_
    refine xo_0 rfl ?_
    refine xr_41 rfl ?_
    refine xo_41 rfl ?_
    exact H
  · intro hc1 H
    refine xo_1 rfl rfl ?_
    refine xo_1 rfl rfl ?_
    refine xo_11gt rfl (am_sp ?_ ?_ H)
    · intro hc2 H
      refine xo_0 rfl ?_
      refine xr_42 rfl rfl ?_
      refine xr_42 rfl rfl ?_
      refine xo_10n rfl (by decide) ?_
      refine xo_2 rfl rfl ?_
      refine xo_0 rfl ?_
      refine cl_133_64 rfl hd_151 rfl ?_
      refine xo_2 rfl rfl ?_
      refine xo_1 rfl rfl ?_
      refine xo_14 rfl cf_64_3 ?_
      refine xo_0 rfl ?_
      refine xr_41 rfl ?_
      refine xo_41 rfl ?_
      exact H
    · intro hc2 H
      refine xo_0 rfl ?_
      refine xo_12 rfl ?_
      refine xr_42 rfl rfl ?_
      refine xr_42 rfl rfl ?_
      refine xo_10 rfl (by decide) ?_
      refine xo_1 rfl rfl ?_
      by_cases hc3 : x2 = 0
      · rw [if_pos hc3] at H
        refine xo_52 (t := 68) rfl (by rw [hc3]; rfl) ?_
        refine xo_2 rfl rfl ?_
        refine xo_13r rfl cr_64_5 ?_
        refine xo_1 rfl rfl ?_
        obtain ⟨hg4, H⟩ := H
        refine xo_17 rfl ca_69 hg4 ?_
        refine xo_41 rfl ?_
        exact H
      · rw [if_neg hc3] at H
        by_cases hc5 : x2 = 1
        · rw [if_pos hc5] at H
          refine xo_52 (t := 75) rfl (by rw [hc5]; rfl) ?_
          refine xo_2 rfl rfl ?_
          refine xo_13r rfl cr_64_6 ?_
          refine xo_1 rfl rfl ?_
          obtain ⟨hg6, H⟩ := H
          refine xo_17 rfl ca_70 hg6 ?_
          refine xo_41 rfl ?_
          exact H
        · rw [if_neg hc5] at H
          by_cases hc7 : x2 = 2
          · rw [if_pos hc7] at H
            refine xo_52 (t := 82) rfl (by rw [hc7]; rfl) ?_
            refine xo_2 rfl rfl ?_
            refine xo_13r rfl cr_64_7 ?_
            refine xo_1 rfl rfl ?_
            obtain ⟨hg8, H⟩ := H
            refine xo_17 rfl ca_71 hg8 ?_
            refine xo_41 rfl ?_
            exact H
          · rw [if_neg hc7] at H
            by_cases hc9 : x2 = 3
            · rw [if_pos hc9] at H
              refine xo_52 (t := 89) rfl (by rw [hc9]; rfl) ?_
              refine xo_2 rfl rfl ?_
              refine xo_13r rfl cr_64_8 ?_
              refine xo_1 rfl rfl ?_
              obtain ⟨hg10, H⟩ := H
              refine xo_17 rfl ca_72 hg10 ?_
              refine xo_41 rfl ?_
              exact H
            · rw [if_neg hc9] at H
              by_cases hc11 : x2 = 4
              · rw [if_pos hc11] at H
                refine xo_52 (t := 96) rfl (by rw [hc11]; rfl) ?_
                refine xo_2 rfl rfl ?_
                refine xo_13r rfl cr_64_9 ?_
                refine xo_1 rfl rfl ?_
                obtain ⟨hg12, H⟩ := H
                refine xo_17 rfl ca_73 hg12 ?_
                refine xo_41 rfl ?_
                exact H
              · rw [if_neg hc11] at H
                by_cases hc13 : x2 = 5
                · rw [if_pos hc13] at H
                  refine xo_52 (t := 103) rfl (by rw [hc13]; rfl) ?_
                  refine xo_2 rfl rfl ?_
                  refine xo_13r rfl cr_64_13 ?_
                  refine xo_1 rfl rfl ?_
                  obtain ⟨hg14, H⟩ := H
                  refine xo_17 rfl ca_77 hg14 ?_
                  refine xo_41 rfl ?_
                  exact H
                · rw [if_neg hc13] at H
                  by_cases hc15 : x2 = 6
                  · rw [if_pos hc15] at H
                    refine xo_52 (t := 110) rfl (by rw [hc15]; rfl) ?_
                    refine xo_2 rfl rfl ?_
                    refine xo_1 rfl rfl ?_
                    refine cl_153_64 rfl hd_151 rfl ?_
                    exact H
                  · rw [if_neg hc15] at H
                    by_cases hc16 : x2 = 7
                    · rw [if_pos hc16] at H
                      refine xo_52 (t := 110) rfl (by rw [hc16]; rfl) ?_
                      refine xo_2 rfl rfl ?_
                      refine xo_1 rfl rfl ?_
                      refine cl_153_64 rfl hd_151 rfl ?_
                      exact H
                    · rw [if_neg hc16] at H
                      refine xo_52 (t := 133) rfl ?_ ?_
                      · have e0 : ¬ (x2).toInt = 0 := fun e => hc3 (Int32.toInt_inj.mp e)
                        have e1 : ¬ (x2).toInt = 1 := fun e => hc5 (Int32.toInt_inj.mp e)
                        have e2 : ¬ (x2).toInt = 2 := fun e => hc7 (Int32.toInt_inj.mp e)
                        have e3 : ¬ (x2).toInt = 3 := fun e => hc9 (Int32.toInt_inj.mp e)
                        have e4 : ¬ (x2).toInt = 4 := fun e => hc11 (Int32.toInt_inj.mp e)
                        have e5 : ¬ (x2).toInt = 5 := fun e => hc13 (Int32.toInt_inj.mp e)
                        have e6 : ¬ (x2).toInt = 6 := fun e => hc15 (Int32.toInt_inj.mp e)
                        have e7 : ¬ (x2).toInt = 7 := fun e => hc16 (Int32.toInt_inj.mp e)
                        rw [if_pos (by show (x2).toInt < 0 ∨ 7 < (x2).toInt; omega)]
                        rfl
                      · refine xo_2 rfl rfl ?_
                        refine xo_0 rfl ?_
                        refine cl_133_64 rfl hd_151 rfl ?_
                        refine xo_2 rfl rfl ?_
                        refine xo_1 rfl rfl ?_
                        refine xo_14 rfl cf_64_3 ?_
                        refine xo_0 rfl ?_
                        refine xr_41 rfl ?_
                        refine xo_41 rfl ?_
                        exact H
theorem sm_151_115 {q1 : Option Value} {x2 : Int32} (hq1 : am_nl q1 = true) (H : (if x2 = 6 then Q (some (.int (h 64 35))) h o g else Q (some (.int (h 64 36))) h o g)) : am_X L xs d 151 115 [some (.ref 64), q1, some (.int x2)] [] am_C0 h o g Q T := by
  refine xo_1 rfl rfl ?_
  refine xo_0 rfl ?_
  refine xo_11ne rfl (am_sp ?_ ?_ H)
  · intro hc1 H
    refine xo_2 rfl rfl ?_
    refine xo_13 rfl cf_64_35 ?_
    refine xo_12 rfl ?_
    refine xo_41 rfl ?_
    exact H
  · intro hc1 H
    refine xo_2 rfl rfl ?_
    refine xo_13 rfl cf_64_36 ?_
    refine xo_41 rfl ?_
    exact H
theorem sm_153 {x1 : Int32} (H : (am_ix x1 10 ∧ am_X L xs (d + 1) 153 7 [some (.ref 64), some (.int x1), some (.int 0)] [] am_C0 (am_set (am_set h 64 35 (h 69 x1.toNatClampNeg)) 64 36 (h 70 x1.toNatClampNeg)) o g Q T)) : am_X L xs (d + 1) 153 0 [some (.ref 64), some (.int x1), none] [] am_C0 h o g Q T := by
  refine xo_2 rfl rfl ?_
  refine xo_1 rfl rfl ?_
  refine cl_154_64 rfl hd_153 rfl ?_
  refine xo_2 rfl rfl ?_
  refine xo_2 rfl rfl ?_
  refine xo_13r rfl cr_64_5 ?_
  refine xo_1 rfl rfl ?_
  obtain ⟨hg1, H⟩ := H
  refine xo_17 rfl ca_69 hg1 ?_
  refine xo_14 rfl cf_64_35 ?_
  refine xo_2 rfl rfl ?_
  refine xo_2 rfl rfl ?_
  refine xo_13r rfl cr_64_6 ?_
  refine xo_1 rfl rfl ?_
  refine xo_17 rfl ca_70 hg1 ?_
  refine xo_14 rfl cf_64_36 ?_
  refine xr_44 rfl ?_
  refine xo_0 rfl ?_
  refine xo_4 (lv' := [some (.ref 64), some (.int x1), some (.int 0)]) rfl rfl rfl ?_
  exact H
theorem sm_153_7 {x1 : Int32} {x2 : Int32} (H : (if x2 < (h 64 28) then (am_ix x2 80 ∧ (if (h 83 x2.toNatClampNeg) = (-1) then (if (h 84 x2.toNatClampNeg) = x1 then (if (h 87 x2.toNatClampNeg) = 0 then am_X L xs (d + 1) 153 7 [some (.ref 64), some (.int x1), some (.int (x2 + 1))] [] am_C0 (am_set h 64 36 (if ((h 85 x2.toNatClampNeg) - 1) < (h 64 36) then ((h 85 x2.toNatClampNeg) - 1) else (h 64 36))) o g Q T else am_X L xs (d + 1) 153 7 [some (.ref 64), some (.int x1), some (.int (x2 + 1))] [] am_C0 (am_set h 64 35 (if (h 64 35) < (h 85 x2.toNatClampNeg) then (h 85 x2.toNatClampNeg) else (h 64 35))) o g Q T) else am_X L xs (d + 1) 153 7 [some (.ref 64), some (.int x1), some (.int (x2 + 1))] [] am_C0 h o g Q T) else am_X L xs (d + 1) 153 7 [some (.ref 64), some (.int x1), some (.int (x2 + 1))] [] am_C0 h o g Q T)) else Q none h o g)) : am_X L xs (d + 1) 153 7 [some (.ref 64), some (.int x1), some (.int x2)] [] am_C0 h o g Q T := by
  refine xo_1 rfl rfl ?_
  refine xo_2 rfl rfl ?_
  refine xo_13 rfl cf_64_28 ?_
  refine xo_11ge rfl (am_sp ?_ ?_ H)
  · intro hc1 H
    refine xo_2 rfl rfl ?_
    refine xo_13r rfl cr_64_30 ?_
    refine xo_1 rfl rfl ?_
    obtain ⟨hg2, H⟩ := H
    refine xo_17 rfl ca_83 hg2 ?_
    refine xo_0 rfl ?_
    refine xo_11ne rfl (am_sp ?_ ?_ H)
    · intro hc3 H
      refine xo_2 rfl rfl ?_
      refine xo_13r rfl cr_64_31 ?_
      refine xo_1 rfl rfl ?_
      refine xo_17 rfl ca_84 hg2 ?_
      refine xo_1 rfl rfl ?_
      refine xo_11ne rfl (am_sp ?_ ?_ H)
      · intro hc4 H
        refine xo_2 rfl rfl ?_
        refine xo_2 rfl rfl ?_
        refine xo_13r rfl cr_64_32 ?_
        refine xo_1 rfl rfl ?_
        refine xo_17 rfl ca_85 hg2 ?_
        refine xo_2 rfl rfl ?_
        refine xo_13r rfl cr_64_34 ?_
        refine xo_1 rfl rfl ?_
        refine xo_18b rfl ca_87 hg2 ?_
        refine cl_155_64 rfl hd_153 rfl ?_
        refine xo_1 rfl rfl ?_
        refine xo_10eq rfl (am_sp ?_ ?_ H)
        · intro hc5 H
          refine xo_2 rfl rfl ?_
          refine xo_2 rfl rfl ?_
          refine xo_13 rfl cf_64_36 ?_
          refine xo_1 rfl rfl ?_
          refine xo_0 rfl ?_
          refine xo_7 rfl rfl ?_
          refine xo_47n rfl (Nat.le_of_ble_eq_true rfl) ?_
          refine xo_14 rfl cf_64_36 ?_
          refine xr_44 rfl ?_
          refine xo_9 (z := (x2 + 1)) (lv' := [some (.ref 64), some (.int x1), some (.int (x2 + 1))]) rfl rfl rfl rfl rfl ?_
          refine xo_12 rfl ?_
          exact H
        · intro hc5 H
          refine xo_2 rfl rfl ?_
          refine xo_2 rfl rfl ?_
          refine xo_13 rfl cf_64_35 ?_
          refine xo_1 rfl rfl ?_
          refine xo_47x rfl (Nat.le_of_ble_eq_true rfl) ?_
          refine xo_14 rfl cf_64_35 ?_
          refine xo_12 rfl ?_
          refine xr_44 rfl ?_
          refine xo_9 (z := (x2 + 1)) (lv' := [some (.ref 64), some (.int x1), some (.int (x2 + 1))]) rfl rfl rfl rfl rfl ?_
          refine xo_12 rfl ?_
          exact H
      · intro hc4 H
        refine xo_9 (z := (x2 + 1)) (lv' := [some (.ref 64), some (.int x1), some (.int (x2 + 1))]) rfl rfl rfl rfl rfl ?_
        refine xo_12 rfl ?_
        exact H
    · intro hc3 H
      refine xo_9 (z := (x2 + 1)) (lv' := [some (.ref 64), some (.int x1), some (.int (x2 + 1))]) rfl rfl rfl rfl rfl ?_
      refine xo_12 rfl ?_
      exact H
  · intro hc1 H
    refine xo_44 rfl ?_
    exact H
theorem sm_156 {x1 : Int32} {x2 : Int32} (H : (if x1 < 0 then Q (some (.int 0)) (am_set (am_set h 64 3 0) 64 3 1) o g else (if ((h 68 1) - 1) < x1 then Q (some (.int 0)) (am_set (am_set h 64 3 0) 64 3 1) o g else (if x2 < 0 then Q (some (.int 0)) (am_set (am_set h 64 3 0) 64 3 1) o g else (if 4 < x2 then Q (some (.int 0)) (am_set (am_set h 64 3 0) 64 3 1) o g else am_X L xs (d + 2) 156 33 [some (.ref 64), some (.int x1), some (.int x2), some (.int 0), some (.int 0)] [] am_C0 (am_set h 64 3 0) o g Q T))))) : am_X L xs (d + 2) 156 0 [some (.ref 64), some (.int x1), some (.int x2), none, none] [] am_C0 h o g Q T := by
  refine xo_2 rfl rfl ?_
  refine xo_0 rfl ?_
  refine xo_14 rfl cf_64_3 ?_
  refine xo_2 rfl rfl ?_
  refine xo_1 rfl rfl ?_
  refine cl_157_64 rfl hd_156 rfl ?_
  refine xo_1 rfl rfl ?_
  refine xo_0 rfl ?_
  refine xo_2 rfl rfl ?_
  refine xo_13r rfl cr_64_4 ?_
  refine xo_0 rfl ?_
  refine xo_17 rfl ca_68 (am_ix.lit rfl) ?_
  refine xo_0 rfl ?_
  refine xo_7 rfl rfl ?_
  refine cl_150 rfl hd_157 rfl ?_
  refine xo_1 rfl rfl ?_
  refine xo_1 rfl rfl ?_
  refine xo_11lt rfl (am_sp ?_ ?_ H)
  · intro hc1 H
    refine xo_0 rfl ?_
    refine xr_42 rfl rfl ?_
    refine xr_42 rfl rfl ?_
    refine xo_10 rfl (by decide) ?_
    refine xo_2 rfl rfl ?_
    refine xo_0 rfl ?_
    refine cl_133_64 rfl hd_156 rfl ?_
    refine xo_2 rfl rfl ?_
    refine xo_1 rfl rfl ?_
    refine xo_14 rfl cf_64_3 ?_
    refine xo_0 rfl ?_
    refine xr_41 rfl ?_
    refine xo_41 rfl ?_
    exact H
  · intro hc1 H
    refine xo_1 rfl rfl ?_
    refine xo_1 rfl rfl ?_
    refine xo_11gt rfl (am_sp ?_ ?_ H)
    · intro hc2 H
      refine xo_0 rfl ?_
      refine xr_42 rfl rfl ?_
      refine xr_42 rfl rfl ?_
      refine xo_10 rfl (by decide) ?_
      refine xo_2 rfl rfl ?_
      refine xo_0 rfl ?_
      refine cl_133_64 rfl hd_156 rfl ?_
      refine xo_2 rfl rfl ?_
      refine xo_1 rfl rfl ?_
      refine xo_14 rfl cf_64_3 ?_
      refine xo_0 rfl ?_
      refine xr_41 rfl ?_
      refine xo_41 rfl ?_
      exact H
    · intro hc2 H
      refine xo_0 rfl ?_
      refine xo_12 rfl ?_
      refine xr_42 rfl rfl ?_
      refine xr_42 rfl rfl ?_
      refine xo_10n rfl (by decide) ?_
      refine xo_1 rfl rfl ?_
      refine xo_0 rfl ?_
      refine xo_0 rfl ?_
      refine cl_150 rfl hd_156 rfl ?_
      refine xo_1 rfl rfl ?_
      refine xo_1 rfl rfl ?_
      refine xo_11lt rfl (am_sp ?_ ?_ H)
      · intro hc3 H
        refine xo_0 rfl ?_
        refine xr_42 rfl rfl ?_
        refine xo_10n rfl (by decide) ?_
        refine xo_2 rfl rfl ?_
        refine xo_0 rfl ?_
        refine cl_133_64 rfl hd_156 rfl ?_
        refine xo_2 rfl rfl ?_
        refine xo_1 rfl rfl ?_
        refine xo_14 rfl cf_64_3 ?_
        refine xo_0 rfl ?_
        refine xr_41 rfl ?_
        refine xo_41 rfl ?_
        exact H
      · intro hc3 H
        refine xo_1 rfl rfl ?_
        refine xo_1 rfl rfl ?_
        refine xo_11gt rfl (am_sp ?_ ?_ H)
        · intro hc4 H
          refine xo_0 rfl ?_
          refine xr_42 rfl rfl ?_
          refine xo_10n rfl (by decide) ?_
          refine xo_2 rfl rfl ?_
          refine xo_0 rfl ?_
          refine cl_133_64 rfl hd_156 rfl ?_
          refine xo_2 rfl rfl ?_
          refine xo_1 rfl rfl ?_
          refine xo_14 rfl cf_64_3 ?_
          refine xo_0 rfl ?_
          refine xr_41 rfl ?_
          refine xo_41 rfl ?_
          exact H
        · intro hc4 H
          refine xo_0 rfl ?_
          refine xo_12 rfl ?_
          refine xr_42 rfl rfl ?_
          refine xo_10 rfl (by decide) ?_
          refine xo_0 rfl ?_
          refine xo_4 (lv' := [some (.ref 64), some (.int x1), some (.int x2), some (.int 0), none]) rfl rfl rfl ?_
          refine xo_0 rfl ?_
          refine xo_4 (lv' := [some (.ref 64), some (.int x1), some (.int x2), some (.int 0), some (.int 0)]) rfl rfl rfl ?_
          exact H
theorem sm_156_33 {x1 : Int32} {x2 : Int32} {x3 : Int32} {x4 : Int32} (H : (if x4 < (h 64 28) then (am_ix x4 80 ∧ (if (h 83 x4.toNatClampNeg) = (-1) then (if x2 = 0 then (if (h 82 x4.toNatClampNeg) = x1 then am_X L xs (d + 1) 156 33 [some (.ref 64), some (.int x1), some (.int x2), some (.int (x3 + (h 68 6))), some (.int (x4 + 1))] [] am_C0 h o g Q T else am_X L xs (d + 1) 156 33 [some (.ref 64), some (.int x1), some (.int x2), some (.int (x3 + 0)), some (.int (x4 + 1))] [] am_C0 h o g Q T) else (if x2 = 2 then (if (h 82 x4.toNatClampNeg) = x1 then am_X L xs (d + 1) 156 33 [some (.ref 64), some (.int x1), some (.int x2), some (.int (x3 + 1)), some (.int (x4 + 1))] [] am_C0 h o g Q T else am_X L xs (d + 1) 156 33 [some (.ref 64), some (.int x1), some (.int x2), some (.int (x3 + 0)), some (.int (x4 + 1))] [] am_C0 h o g Q T) else am_X L xs (d + 1) 156 33 [some (.ref 64), some (.int x1), some (.int x2), some (.int (x3 + 0)), some (.int (x4 + 1))] [] am_C0 h o g Q T)) else (if x2 = 0 then (if (h 83 x4.toNatClampNeg) = x1 then am_X L xs (d + 1) 156 33 [some (.ref 64), some (.int x1), some (.int x2), some (.int (x3 + (h 86 x4.toNatClampNeg))), some (.int (x4 + 1))] [] am_C0 h o g Q T else am_X L xs (d + 1) 156 33 [some (.ref 64), some (.int x1), some (.int x2), some (.int (x3 + 0)), some (.int (x4 + 1))] [] am_C0 h o g Q T) else (if x2 = 2 then am_X L xs (d + 1) 156 33 [some (.ref 64), some (.int x1), some (.int x2), some (.int (x3 + 0)), some (.int (x4 + 1))] [] am_C0 h o g Q T else (if x2 = 1 then (if (h 82 x4.toNatClampNeg) = x1 then am_X L xs (d + 1) 156 33 [some (.ref 64), some (.int x1), some (.int x2), some (.int (x3 + (h 86 x4.toNatClampNeg))), some (.int (x4 + 1))] [] am_C0 h o g Q T else am_X L xs (d + 1) 156 33 [some (.ref 64), some (.int x1), some (.int x2), some (.int (x3 + 0)), some (.int (x4 + 1))] [] am_C0 h o g Q T) else (if x2 = 3 then (if (h 82 x4.toNatClampNeg) = x1 then am_X L xs (d + 1) 156 33 [some (.ref 64), some (.int x1), some (.int x2), some (.int (x3 + 1)), some (.int (x4 + 1))] [] am_C0 h o g Q T else am_X L xs (d + 1) 156 33 [some (.ref 64), some (.int x1), some (.int x2), some (.int (x3 + 0)), some (.int (x4 + 1))] [] am_C0 h o g Q T) else (if (h 83 x4.toNatClampNeg) = x1 then am_X L xs (d + 1) 156 33 [some (.ref 64), some (.int x1), some (.int x2), some (.int (x3 + 1)), some (.int (x4 + 1))] [] am_C0 h o g Q T else am_X L xs (d + 1) 156 33 [some (.ref 64), some (.int x1), some (.int x2), some (.int (x3 + 0)), some (.int (x4 + 1))] [] am_C0 h o g Q T))))))) else Q (some (.int x3)) h o g)) : am_X L xs (d + 1) 156 33 [some (.ref 64), some (.int x1), some (.int x2), some (.int x3), some (.int x4)] [] am_C0 h o g Q T := by
  refine xo_1 rfl rfl ?_
  refine xo_2 rfl rfl ?_
  refine xo_13 rfl cf_64_28 ?_
  refine xo_11ge rfl (am_sp ?_ ?_ H)
  · intro hc1 H
    refine xo_1 rfl rfl ?_
    refine xo_2 rfl rfl ?_
    refine xo_1 rfl rfl ?_
    refine xo_1 rfl rfl ?_
    refine xo_1 rfl rfl ?_
    refine cl_158_64 rfl hd_156 rfl ?_
    refine xo_2 rfl rfl ?_
    refine xo_13r rfl cr_64_30 ?_
    refine xo_1 rfl rfl ?_
    obtain ⟨hg2, H⟩ := H
    refine xo_17 rfl ca_83 hg2 ?_
    refine xo_0 rfl ?_
    refine xo_11ne rfl (am_sp ?_ ?_ H)
    · intro hc3 H
      refine xo_0 rfl ?_
      refine xo_12 rfl ?_
      refine xo_4 (lv' := [some (.ref 64), some (.int x1), some (.int x4), some (.int x2), some (.int 1)]) rfl rfl rfl ?_
      refine xo_1 rfl rfl ?_
      refine xo_10ne rfl (am_sp ?_ ?_ H)
      · intro hc4 H
        refine xo_1 rfl rfl ?_
        refine xo_10n rfl (by decide) ?_
        refine xo_2 rfl rfl ?_
        refine xo_13r rfl cr_64_29 ?_
        refine xo_1 rfl rfl ?_
        refine xo_17 rfl ca_82 hg2 ?_
        refine xo_1 rfl rfl ?_
        refine xo_11ne rfl (am_sp ?_ ?_ H)
        · intro hc5 H
          refine xo_2 rfl rfl ?_
          refine xo_13r rfl cr_64_4 ?_
          refine xo_0 rfl ?_
          refine xo_17 rfl ca_68 (am_ix.lit rfl) ?_
          refine xo_12 rfl ?_
          refine xr_41 rfl ?_
          refine xo_7 rfl rfl ?_
          refine xo_4 (lv' := [some (.ref 64), some (.int x1), some (.int x2), some (.int (x3 + (h 68 6))), some (.int x4)]) rfl rfl rfl ?_
          refine xo_9 (z := (x4 + 1)) (lv' := [some (.ref 64), some (.int x1), some (.int x2), some (.int (x3 + (h 68 6))), some (.int (x4 + 1))]) rfl rfl rfl rfl rfl ?_
          refine xo_12 rfl ?_
          exact H
        · intro hc5 H
          refine xo_0 rfl ?_
          refine xo_12 rfl ?_
          refine xr_41 rfl ?_
          refine xo_7 rfl rfl ?_
          refine xo_4 (lv' := [some (.ref 64), some (.int x1), some (.int x2), some (.int (x3 + 0)), some (.int x4)]) rfl rfl rfl ?_
          refine xo_9 (z := (x4 + 1)) (lv' := [some (.ref 64), some (.int x1), some (.int x2), some (.int (x3 + 0)), some (.int (x4 + 1))]) rfl rfl rfl rfl rfl ?_
          refine xo_12 rfl ?_
          exact H
      · intro hc4 H
        refine xo_1 rfl rfl ?_
        refine xo_0 rfl ?_
        refine xo_11ne rfl (am_sp ?_ ?_ H)
        · intro hc6 H
          refine xo_1 rfl rfl ?_
          refine xo_10n rfl (by decide) ?_
          refine xo_2 rfl rfl ?_
          refine xo_13r rfl cr_64_29 ?_
          refine xo_1 rfl rfl ?_
          refine xo_17 rfl ca_82 hg2 ?_
          refine xo_1 rfl rfl ?_
          refine xo_11ne rfl (am_sp ?_ ?_ H)
          · intro hc7 H
            refine xo_0 rfl ?_
            refine xo_12 rfl ?_
            refine xr_41 rfl ?_
            refine xo_7 rfl rfl ?_
            refine xo_4 (lv' := [some (.ref 64), some (.int x1), some (.int x2), some (.int (x3 + 1)), some (.int x4)]) rfl rfl rfl ?_
            refine xo_9 (z := (x4 + 1)) (lv' := [some (.ref 64), some (.int x1), some (.int x2), some (.int (x3 + 1)), some (.int (x4 + 1))]) rfl rfl rfl rfl rfl ?_
            refine xo_12 rfl ?_
            exact H
          · intro hc7 H
            refine xo_0 rfl ?_
            refine xr_41 rfl ?_
            refine xo_7 rfl rfl ?_
            refine xo_4 (lv' := [some (.ref 64), some (.int x1), some (.int x2), some (.int (x3 + 0)), some (.int x4)]) rfl rfl rfl ?_
            refine xo_9 (z := (x4 + 1)) (lv' := [some (.ref 64), some (.int x1), some (.int x2), some (.int (x3 + 0)), some (.int (x4 + 1))]) rfl rfl rfl rfl rfl ?_
            refine xo_12 rfl ?_
            exact H
        · intro hc6 H
          refine xo_1 rfl rfl ?_
          refine xo_10n rfl (by decide) ?_
          refine xo_0 rfl ?_
          refine xr_41 rfl ?_
          refine xo_7 rfl rfl ?_
          refine xo_4 (lv' := [some (.ref 64), some (.int x1), some (.int x2), some (.int (x3 + 0)), some (.int x4)]) rfl rfl rfl ?_
          refine xo_9 (z := (x4 + 1)) (lv' := [some (.ref 64), some (.int x1), some (.int x2), some (.int (x3 + 0)), some (.int (x4 + 1))]) rfl rfl rfl rfl rfl ?_
          refine xo_12 rfl ?_
          exact H
    · intro hc3 H
      refine xo_0 rfl ?_
      refine xo_4 (lv' := [some (.ref 64), some (.int x1), some (.int x4), some (.int x2), some (.int 0)]) rfl rfl rfl ?_
      refine xo_1 rfl rfl ?_
      refine xo_10ne rfl (am_sp ?_ ?_ H)
      · intro hc8 H
        refine xo_1 rfl rfl ?_
        refine xo_10 rfl (by decide) ?_
        refine xo_2 rfl rfl ?_
        refine xo_13r rfl cr_64_30 ?_
        refine xo_1 rfl rfl ?_
        refine xo_17 rfl ca_83 hg2 ?_
        refine xo_1 rfl rfl ?_
        refine xo_11ne rfl (am_sp ?_ ?_ H)
        · intro hc9 H
          refine xo_2 rfl rfl ?_
          refine xo_13r rfl cr_64_33 ?_
          refine xo_1 rfl rfl ?_
          refine xo_17 rfl ca_86 hg2 ?_
          refine xo_12 rfl ?_
          refine xr_41 rfl ?_
          refine xo_7 rfl rfl ?_
          refine xo_4 (lv' := [some (.ref 64), some (.int x1), some (.int x2), some (.int (x3 + (h 86 x4.toNatClampNeg))), some (.int x4)]) rfl rfl rfl ?_
          refine xo_9 (z := (x4 + 1)) (lv' := [some (.ref 64), some (.int x1), some (.int x2), some (.int (x3 + (h 86 x4.toNatClampNeg))), some (.int (x4 + 1))]) rfl rfl rfl rfl rfl ?_
          refine xo_12 rfl ?_
          exact H
        · intro hc9 H
          refine xo_0 rfl ?_
          refine xr_41 rfl ?_
          refine xo_7 rfl rfl ?_
          refine xo_4 (lv' := [some (.ref 64), some (.int x1), some (.int x2), some (.int (x3 + 0)), some (.int x4)]) rfl rfl rfl ?_
          refine xo_9 (z := (x4 + 1)) (lv' := [some (.ref 64), some (.int x1), some (.int x2), some (.int (x3 + 0)), some (.int (x4 + 1))]) rfl rfl rfl rfl rfl ?_
          refine xo_12 rfl ?_
          exact H
      · intro hc8 H
        refine xo_1 rfl rfl ?_
        refine xo_0 rfl ?_
        refine xo_11ne rfl (am_sp ?_ ?_ H)
        · intro hc10 H
          refine xo_1 rfl rfl ?_
          refine xo_10 rfl (by decide) ?_
          refine xo_0 rfl ?_
          refine xr_41 rfl ?_
          refine xo_7 rfl rfl ?_
          refine xo_4 (lv' := [some (.ref 64), some (.int x1), some (.int x2), some (.int (x3 + 0)), some (.int x4)]) rfl rfl rfl ?_
          refine xo_9 (z := (x4 + 1)) (lv' := [some (.ref 64), some (.int x1), some (.int x2), some (.int (x3 + 0)), some (.int (x4 + 1))]) rfl rfl rfl rfl rfl ?_
          refine xo_12 rfl ?_
          exact H
        · intro hc10 H
          refine xo_1 rfl rfl ?_
          refine xo_10 rfl (by decide) ?_
          refine xo_1 rfl rfl ?_
          refine xo_0 rfl ?_
          refine xo_11ne rfl (am_sp ?_ ?_ H)
          · intro hc11 H
            refine xo_2 rfl rfl ?_
            refine xo_13r rfl cr_64_29 ?_
            refine xo_1 rfl rfl ?_
            refine xo_17 rfl ca_82 hg2 ?_
            refine xo_1 rfl rfl ?_
            refine xo_11ne rfl (am_sp ?_ ?_ H)
            · intro hc12 H
              refine xo_2 rfl rfl ?_
              refine xo_13r rfl cr_64_33 ?_
              refine xo_1 rfl rfl ?_
              refine xo_17 rfl ca_86 hg2 ?_
              refine xo_12 rfl ?_
              refine xr_41 rfl ?_
              refine xo_7 rfl rfl ?_
              refine xo_4 (lv' := [some (.ref 64), some (.int x1), some (.int x2), some (.int (x3 + (h 86 x4.toNatClampNeg))), some (.int x4)]) rfl rfl rfl ?_
              refine xo_9 (z := (x4 + 1)) (lv' := [some (.ref 64), some (.int x1), some (.int x2), some (.int (x3 + (h 86 x4.toNatClampNeg))), some (.int (x4 + 1))]) rfl rfl rfl rfl rfl ?_
              refine xo_12 rfl ?_
              exact H
            · intro hc12 H
              refine xo_0 rfl ?_
              refine xo_12 rfl ?_
              refine xr_41 rfl ?_
              refine xo_7 rfl rfl ?_
              refine xo_4 (lv' := [some (.ref 64), some (.int x1), some (.int x2), some (.int (x3 + 0)), some (.int x4)]) rfl rfl rfl ?_
              refine xo_9 (z := (x4 + 1)) (lv' := [some (.ref 64), some (.int x1), some (.int x2), some (.int (x3 + 0)), some (.int (x4 + 1))]) rfl rfl rfl rfl rfl ?_
              refine xo_12 rfl ?_
              exact H
          · intro hc11 H
            refine xo_1 rfl rfl ?_
            refine xo_0 rfl ?_
            refine xo_11ne rfl (am_sp ?_ ?_ H)
            · intro hc13 H
              refine xo_2 rfl rfl ?_
              refine xo_13r rfl cr_64_29 ?_
              refine xo_1 rfl rfl ?_
              refine xo_17 rfl ca_82 hg2 ?_
              refine xo_1 rfl rfl ?_
              refine xo_11ne rfl (am_sp ?_ ?_ H)
              · intro hc14 H
                refine xo_0 rfl ?_
                refine xo_12 rfl ?_
                refine xr_41 rfl ?_
                refine xo_7 rfl rfl ?_
                refine xo_4 (lv' := [some (.ref 64), some (.int x1), some (.int x2), some (.int (x3 + 1)), some (.int x4)]) rfl rfl rfl ?_
                refine xo_9 (z := (x4 + 1)) (lv' := [some (.ref 64), some (.int x1), some (.int x2), some (.int (x3 + 1)), some (.int (x4 + 1))]) rfl rfl rfl rfl rfl ?_
                refine xo_12 rfl ?_
                exact H
              · intro hc14 H
                refine xo_0 rfl ?_
                refine xo_12 rfl ?_
                refine xr_41 rfl ?_
                refine xo_7 rfl rfl ?_
                refine xo_4 (lv' := [some (.ref 64), some (.int x1), some (.int x2), some (.int (x3 + 0)), some (.int x4)]) rfl rfl rfl ?_
                refine xo_9 (z := (x4 + 1)) (lv' := [some (.ref 64), some (.int x1), some (.int x2), some (.int (x3 + 0)), some (.int (x4 + 1))]) rfl rfl rfl rfl rfl ?_
                refine xo_12 rfl ?_
                exact H
            · intro hc13 H
              refine xo_2 rfl rfl ?_
              refine xo_13r rfl cr_64_30 ?_
              refine xo_1 rfl rfl ?_
              refine xo_17 rfl ca_83 hg2 ?_
              refine xo_1 rfl rfl ?_
              refine xo_11ne rfl (am_sp ?_ ?_ H)
              · intro hc15 H
                refine xo_0 rfl ?_
                refine xo_12 rfl ?_
                refine xr_41 rfl ?_
                refine xo_7 rfl rfl ?_
                refine xo_4 (lv' := [some (.ref 64), some (.int x1), some (.int x2), some (.int (x3 + 1)), some (.int x4)]) rfl rfl rfl ?_
                refine xo_9 (z := (x4 + 1)) (lv' := [some (.ref 64), some (.int x1), some (.int x2), some (.int (x3 + 1)), some (.int (x4 + 1))]) rfl rfl rfl rfl rfl ?_
                refine xo_12 rfl ?_
                exact H
              · intro hc15 H
                refine xo_0 rfl ?_
                refine xr_41 rfl ?_
                refine xo_7 rfl rfl ?_
                refine xo_4 (lv' := [some (.ref 64), some (.int x1), some (.int x2), some (.int (x3 + 0)), some (.int x4)]) rfl rfl rfl ?_
                refine xo_9 (z := (x4 + 1)) (lv' := [some (.ref 64), some (.int x1), some (.int x2), some (.int (x3 + 0)), some (.int (x4 + 1))]) rfl rfl rfl rfl rfl ?_
                refine xo_12 rfl ?_
                exact H
  · intro hc1 H
    refine xo_1 rfl rfl ?_
    refine xo_41 rfl ?_
    exact H
theorem sm_159 {x1 : Int32} {x2 : Int32} {x3 : Int32} (H : (if x1 < 0 then Q (some (.int 0)) (am_set (am_set h 64 3 0) 64 3 1) o g else (if ((h 68 2) - 1) < x1 then Q (some (.int 0)) (am_set (am_set h 64 3 0) 64 3 1) o g else (if x2 < 0 then Q (some (.int 0)) (am_set (am_set h 64 3 0) 64 3 1) o g else (if 99 < x2 then Q (some (.int 0)) (am_set (am_set h 64 3 0) 64 3 1) o g else (if x3 < 0 then Q (some (.int 0)) (am_set (am_set h 64 3 0) 64 3 1) o g else (if 9999 < x3 then Q (some (.int 0)) (am_set (am_set h 64 3 0) 64 3 1) o g else (am_ix x1 10 ∧ (if (h 74 x1.toNatClampNeg) = 2 then (if (h 74 x1.toNatClampNeg) = 1 then Q (some (.int (((if 0 < ((h 75 x1.toNatClampNeg) - (((h 76 x1.toNatClampNeg) * x3) / 10)) then ((h 75 x1.toNatClampNeg) - (((h 76 x1.toNatClampNeg) * x3) / 10)) else 0) + (fn_163 (am_set h 64 3 0) 6)) + 2))) (am_set h 64 3 0) o g else Q (some (.int (((if 0 < ((h 75 x1.toNatClampNeg) - (((h 76 x1.toNatClampNeg) * x3) / 10)) then ((h 75 x1.toNatClampNeg) - (((h 76 x1.toNatClampNeg) * x3) / 10)) else 0) + (fn_163 (am_set h 64 3 0) 6)) + 0))) (am_set h 64 3 0) o g) else (if (h 74 x1.toNatClampNeg) = 1 then Q (some (.int (((if 0 < ((h 75 x1.toNatClampNeg) - (((h 76 x1.toNatClampNeg) * x3) / 10)) then ((h 75 x1.toNatClampNeg) - (((h 76 x1.toNatClampNeg) * x3) / 10)) else 0) + (fn_163 (am_set h 64 3 0) x2)) + 2))) (am_set h 64 3 0) o g else Q (some (.int (((if 0 < ((h 75 x1.toNatClampNeg) - (((h 76 x1.toNatClampNeg) * x3) / 10)) then ((h 75 x1.toNatClampNeg) - (((h 76 x1.toNatClampNeg) * x3) / 10)) else 0) + (fn_163 (am_set h 64 3 0) x2)) + 0))) (am_set h 64 3 0) o g)))))))))) : am_X L xs (d + 2) 159 0 [some (.ref 64), some (.int x1), some (.int x2), some (.int x3)] [] am_C0 h o g Q T := by
  refine xo_2 rfl rfl ?_
  refine xo_0 rfl ?_
  refine xo_14 rfl cf_64_3 ?_
  refine xo_2 rfl rfl ?_
  refine xo_1 rfl rfl ?_
  refine cl_160_64 rfl hd_159 rfl ?_
  refine xo_1 rfl rfl ?_
  refine xo_0 rfl ?_
  refine xo_2 rfl rfl ?_
  refine xo_13r rfl cr_64_4 ?_
  refine xo_0 rfl ?_
  refine xo_17 rfl ca_68 (am_ix.lit rfl) ?_
  refine xo_0 rfl ?_
  refine xo_7 rfl rfl ?_
  refine cl_150 rfl hd_160 rfl ?_
  refine xo_1 rfl rfl ?_
  refine xo_1 rfl rfl ?_
  refine xo_11lt rfl (am_sp ?_ ?_ H)
  · intro hc1 H
    refine xo_0 rfl ?_
    refine xr_42 rfl rfl ?_
    refine xr_42 rfl rfl ?_
    refine xo_10 rfl (by decide) ?_
    refine xo_2 rfl rfl ?_
    refine xo_0 rfl ?_
    refine cl_133_64 rfl hd_159 rfl ?_
    refine xo_2 rfl rfl ?_
    refine xo_1 rfl rfl ?_
    refine xo_14 rfl cf_64_3 ?_
    refine xo_0 rfl ?_
    refine xr_41 rfl ?_
    refine xo_41 rfl ?_
    exact H
  · intro hc1 H
    refine xo_1 rfl rfl ?_
    refine xo_1 rfl rfl ?_
    refine xo_11gt rfl (am_sp ?_ ?_ H)
    · intro hc2 H
      refine xo_0 rfl ?_
      refine xr_42 rfl rfl ?_
      refine xr_42 rfl rfl ?_
      refine xo_10 rfl (by decide) ?_
      refine xo_2 rfl rfl ?_
      refine xo_0 rfl ?_
      refine cl_133_64 rfl hd_159 rfl ?_
      refine xo_2 rfl rfl ?_
      refine xo_1 rfl rfl ?_
      refine xo_14 rfl cf_64_3 ?_
      refine xo_0 rfl ?_
      refine xr_41 rfl ?_
      refine xo_41 rfl ?_
      exact H
    · intro hc2 H
      refine xo_0 rfl ?_
      refine xo_12 rfl ?_
      refine xr_42 rfl rfl ?_
      refine xr_42 rfl rfl ?_
      refine xo_10n rfl (by decide) ?_
      refine xo_1 rfl rfl ?_
      refine xo_1 rfl rfl ?_
      refine cl_161 rfl hd_159 rfl ?_
      refine xo_1 rfl rfl ?_
      refine xo_0 rfl ?_
      refine xo_0 rfl ?_
      refine cl_150 rfl hd_161 rfl ?_
      refine xo_1 rfl rfl ?_
      refine xo_1 rfl rfl ?_
      refine xo_11lt rfl (am_sp ?_ ?_ H)
      · intro hc3 H
        refine xo_0 rfl ?_
        refine xr_42 rfl rfl ?_
        refine xo_10 rfl (by decide) ?_
        refine xo_0 rfl ?_
        refine xr_42 rfl rfl ?_
        refine xo_10 rfl (by decide) ?_
        refine xo_2 rfl rfl ?_
        refine xo_0 rfl ?_
        refine cl_133_64 rfl hd_159 rfl ?_
        refine xo_2 rfl rfl ?_
        refine xo_1 rfl rfl ?_
        refine xo_14 rfl cf_64_3 ?_
        refine xo_0 rfl ?_
        refine xr_41 rfl ?_
        refine xo_41 rfl ?_
        exact H
      · intro hc3 H
        refine xo_1 rfl rfl ?_
        refine xo_1 rfl rfl ?_
        refine xo_11gt rfl (am_sp ?_ ?_ H)
        · intro hc4 H
          refine xo_0 rfl ?_
          refine xr_42 rfl rfl ?_
          refine xo_10 rfl (by decide) ?_
          refine xo_0 rfl ?_
          refine xr_42 rfl rfl ?_
          refine xo_10 rfl (by decide) ?_
          refine xo_2 rfl rfl ?_
          refine xo_0 rfl ?_
          refine cl_133_64 rfl hd_159 rfl ?_
          refine xo_2 rfl rfl ?_
          refine xo_1 rfl rfl ?_
          refine xo_14 rfl cf_64_3 ?_
          refine xo_0 rfl ?_
          refine xr_41 rfl ?_
          refine xo_41 rfl ?_
          exact H
        · intro hc4 H
          refine xo_0 rfl ?_
          refine xo_12 rfl ?_
          refine xr_42 rfl rfl ?_
          refine xo_10n rfl (by decide) ?_
          refine xo_1 rfl rfl ?_
          refine xo_0 rfl ?_
          refine xo_0 rfl ?_
          refine cl_150 rfl hd_161 rfl ?_
          refine xo_1 rfl rfl ?_
          refine xo_1 rfl rfl ?_
          refine xo_11lt rfl (am_sp ?_ ?_ H)
          · intro hc5 H
            refine xo_0 rfl ?_
            refine xr_42 rfl rfl ?_
            refine xo_10 rfl (by decide) ?_
            refine xo_0 rfl ?_
            refine xr_42 rfl rfl ?_
            refine xo_10 rfl (by decide) ?_
            refine xo_2 rfl rfl ?_
            refine xo_0 rfl ?_
            refine cl_133_64 rfl hd_159 rfl ?_
            refine xo_2 rfl rfl ?_
            refine xo_1 rfl rfl ?_
            refine xo_14 rfl cf_64_3 ?_
            refine xo_0 rfl ?_
            refine xr_41 rfl ?_
            refine xo_41 rfl ?_
            exact H
          · intro hc5 H
            refine xo_1 rfl rfl ?_
            refine xo_1 rfl rfl ?_
            refine xo_11gt rfl (am_sp ?_ ?_ H)
            · intro hc6 H
              refine xo_0 rfl ?_
              refine xr_42 rfl rfl ?_
              refine xo_10 rfl (by decide) ?_
              refine xo_0 rfl ?_
              refine xr_42 rfl rfl ?_
              refine xo_10 rfl (by decide) ?_
              refine xo_2 rfl rfl ?_
              refine xo_0 rfl ?_
              refine cl_133_64 rfl hd_159 rfl ?_
              refine xo_2 rfl rfl ?_
              refine xo_1 rfl rfl ?_
              refine xo_14 rfl cf_64_3 ?_
              refine xo_0 rfl ?_
              refine xr_41 rfl ?_
              refine xo_41 rfl ?_
              exact H
            · intro hc6 H
              refine xo_0 rfl ?_
              refine xo_12 rfl ?_
              refine xr_42 rfl rfl ?_
              refine xo_10n rfl (by decide) ?_
              refine xo_0 rfl ?_
              refine xo_12 rfl ?_
              refine xr_42 rfl rfl ?_
              refine xo_10n rfl (by decide) ?_
              refine xo_2 rfl rfl ?_
              refine xo_1 rfl rfl ?_
              refine xo_1 rfl rfl ?_
              refine xo_1 rfl rfl ?_
              refine cl_162_64 rfl hd_159 rfl ?_
              refine xo_0 rfl ?_
              refine xo_2 rfl rfl ?_
              refine xo_13r rfl cr_64_11 ?_
              refine xo_1 rfl rfl ?_
              obtain ⟨hg7, H⟩ := H
              refine xo_17 rfl ca_75 hg7 ?_
              refine xo_2 rfl rfl ?_
              refine xo_13r rfl cr_64_12 ?_
              refine xo_1 rfl rfl ?_
              refine xo_17 rfl ca_76 hg7 ?_
              refine xo_1 rfl rfl ?_
              refine xo_7 rfl rfl ?_
              refine xo_0 rfl ?_
              refine xo_7d rfl (by decide) ?_
              refine xo_7 rfl rfl ?_
              refine xo_47x rfl (Nat.le_of_ble_eq_true rfl) ?_
              refine xo_4 (lv' := [some (.ref 64), some (.int x1), some (.int x2), some (.int x3), some (.int (if 0 < ((h 75 x1.toNatClampNeg) - (((h 76 x1.toNatClampNeg) * x3) / 10)) then ((h 75 x1.toNatClampNeg) - (((h 76 x1.toNatClampNeg) * x3) / 10)) else 0))]) rfl rfl rfl ?_
              refine xo_1 rfl rfl ?_
              refine xo_2 rfl rfl ?_
              refine xo_2 rfl rfl ?_
              refine xo_13r rfl cr_64_10 ?_
              refine xo_1 rfl rfl ?_
              refine xo_17 rfl ca_74 hg7 ?_
              refine xo_0 rfl ?_
              refine xo_11ne rfl (am_sp ?_ ?_ H)
              · intro hc8 H
                refine xo_0 rfl ?_
                refine xo_12 rfl ?_
                refine cl_163_64 rfl hd_162 rfl (sf_163 ?_)
                show am_X L xs (d + 1) 162 46 [some (.ref 64), some (.int x1), some (.int x2), some (.int x3), some (.int (if 0 < ((h 75 x1.toNatClampNeg) - (((h 76 x1.toNatClampNeg) * x3) / 10)) then ((h 75 x1.toNatClampNeg) - (((h 76 x1.toNatClampNeg) * x3) / 10)) else 0))] [.int (fn_163 (am_set h 64 3 0) 6), .int (if 0 < ((h 75 x1.toNatClampNeg) - (((h 76 x1.toNatClampNeg) * x3) / 10)) then ((h 75 x1.toNatClampNeg) - (((h 76 x1.toNatClampNeg) * x3) / 10)) else 0)] am_C0 (am_set h 64 3 0) o g (fun w h' o' g' => am_X L xs (d + 2) 159 28 [some (.ref 64), some (.int x1), some (.int x2), some (.int x3)] (w.toList ++ []) am_C0 h' o' g' Q T) T
                refine xo_7 rfl rfl ?_
                refine xo_2 rfl rfl ?_
                refine xo_13r rfl cr_64_10 ?_
                refine xo_1 rfl rfl ?_
                refine xo_17 rfl ca_74 hg7 ?_
                refine xo_0 rfl ?_
                refine xo_11ne rfl (am_sp ?_ ?_ H)
                · intro hc9 H
                  refine xo_0 rfl ?_
                  refine xo_12 rfl ?_
                  refine xo_7 rfl rfl ?_
                  refine xr_41 rfl ?_
                  refine xo_12 rfl ?_
                  refine xo_41 rfl ?_
                  exact H
                · intro hc9 H
                  refine xo_0 rfl ?_
                  refine xo_7 rfl rfl ?_
                  refine xr_41 rfl ?_
                  refine xo_12 rfl ?_
                  refine xo_41 rfl ?_
                  exact H
              · intro hc8 H
                refine xo_1 rfl rfl ?_
                refine cl_163_64 rfl hd_162 rfl (sf_163 ?_)
                show am_X L xs (d + 1) 162 46 [some (.ref 64), some (.int x1), some (.int x2), some (.int x3), some (.int (if 0 < ((h 75 x1.toNatClampNeg) - (((h 76 x1.toNatClampNeg) * x3) / 10)) then ((h 75 x1.toNatClampNeg) - (((h 76 x1.toNatClampNeg) * x3) / 10)) else 0))] [.int (fn_163 (am_set h 64 3 0) x2), .int (if 0 < ((h 75 x1.toNatClampNeg) - (((h 76 x1.toNatClampNeg) * x3) / 10)) then ((h 75 x1.toNatClampNeg) - (((h 76 x1.toNatClampNeg) * x3) / 10)) else 0)] am_C0 (am_set h 64 3 0) o g (fun w h' o' g' => am_X L xs (d + 2) 159 28 [some (.ref 64), some (.int x1), some (.int x2), some (.int x3)] (w.toList ++ []) am_C0 h' o' g' Q T) T
                refine xo_7 rfl rfl ?_
                refine xo_2 rfl rfl ?_
                refine xo_13r rfl cr_64_10 ?_
                refine xo_1 rfl rfl ?_
                refine xo_17 rfl ca_74 hg7 ?_
                refine xo_0 rfl ?_
                refine xo_11ne rfl (am_sp ?_ ?_ H)
                · intro hc10 H
                  refine xo_0 rfl ?_
                  refine xo_12 rfl ?_
                  refine xo_7 rfl rfl ?_
                  refine xr_41 rfl ?_
                  refine xo_12 rfl ?_
                  refine xo_41 rfl ?_
                  exact H
                · intro hc10 H
                  refine xo_0 rfl ?_
                  refine xo_7 rfl rfl ?_
                  refine xr_41 rfl ?_
                  refine xo_12 rfl ?_
                  refine xo_41 rfl ?_
                  exact H
theorem sm_164 {x1 : Int32} {x2 : Int32} (H : (if x1 < 0 then Q (some (.int 0)) (am_set (am_set h 64 3 0) 64 3 1) o g else (if ((h 68 0) - 1) < x1 then Q (some (.int 0)) (am_set (am_set h 64 3 0) 64 3 1) o g else (if x2 < 0 then Q (some (.int 0)) (am_set h 64 3 0) o g else (if 99 < x2 then Q (some (.int 0)) (am_set h 64 3 0) o g else (am_ix x1 5 ∧ Q (some (.int 1)) (am_set (am_set h 64 3 0) 77 x1.toNatClampNeg x2) o g)))))) : am_X L xs (d + 2) 164 0 [some (.ref 64), some (.int x1), some (.int x2), none] [] am_C0 h o g Q T := by
  refine xo_2 rfl rfl ?_
  refine xo_0 rfl ?_
  refine xo_14 rfl cf_64_3 ?_
  refine xo_2 rfl rfl ?_
  refine xo_1 rfl rfl ?_
  refine cl_152_64 rfl hd_164 rfl ?_
  refine xo_1 rfl rfl ?_
  refine xo_0 rfl ?_
  refine xo_2 rfl rfl ?_
  refine xo_13r rfl cr_64_4 ?_
  refine xo_0 rfl ?_
  refine xo_17 rfl ca_68 (am_ix.lit rfl) ?_
  refine xo_0 rfl ?_
  refine xo_7 rfl rfl ?_
  refine cl_150 rfl hd_152 rfl ?_
  refine xo_1 rfl rfl ?_
  refine xo_1 rfl rfl ?_
  refine xo_11lt rfl (am_sp ?_ ?_ H)
  · intro hc1 H
    refine xo_0 rfl ?_
    refine xr_42 rfl rfl ?_
    refine xr_42 rfl rfl ?_
    refine xo_10n rfl (by decide) ?_
    refine xo_2 rfl rfl ?_
    refine xo_0 rfl ?_
    refine xo_14 rfl cf_64_3 ?_
    refine xo_0 rfl ?_
    refine xo_42 rfl rfl ?_
    exact H
  · intro hc1 H
    refine xo_1 rfl rfl ?_
    refine xo_1 rfl rfl ?_
    refine xo_11gt rfl (am_sp ?_ ?_ H)
    · intro hc2 H
      refine xo_0 rfl ?_
      refine xr_42 rfl rfl ?_
      refine xr_42 rfl rfl ?_
      refine xo_10n rfl (by decide) ?_
      refine xo_2 rfl rfl ?_
      refine xo_0 rfl ?_
      refine xo_14 rfl cf_64_3 ?_
      refine xo_0 rfl ?_
      refine xo_42 rfl rfl ?_
      exact H
    · intro hc2 H
      refine xo_0 rfl ?_
      refine xo_12 rfl ?_
      refine xr_42 rfl rfl ?_
      refine xr_42 rfl rfl ?_
      refine xo_10 rfl (by decide) ?_
      refine xo_1 rfl rfl ?_
      refine xo_0 rfl ?_
      refine xo_0 rfl ?_
      refine cl_150 rfl hd_164 rfl ?_
      refine xo_1 rfl rfl ?_
      refine xo_1 rfl rfl ?_
      refine xo_11lt rfl (am_sp ?_ ?_ H)
      · intro hc3 H
        refine xo_0 rfl ?_
        refine xr_42 rfl rfl ?_
        refine xo_4 (lv' := [some (.ref 64), some (.int x1), some (.int x2), some (.int 0)]) rfl rfl rfl ?_
        refine xo_1 rfl rfl ?_
        refine xo_10 rfl (by decide) ?_
        refine xo_1 rfl rfl ?_
        refine xo_42 rfl rfl ?_
        exact H
      · intro hc3 H
        refine xo_1 rfl rfl ?_
        refine xo_1 rfl rfl ?_
        refine xo_11gt rfl (am_sp ?_ ?_ H)
        · intro hc4 H
          refine xo_0 rfl ?_
          refine xr_42 rfl rfl ?_
          refine xo_4 (lv' := [some (.ref 64), some (.int x1), some (.int x2), some (.int 0)]) rfl rfl rfl ?_
          refine xo_1 rfl rfl ?_
          refine xo_10 rfl (by decide) ?_
          refine xo_1 rfl rfl ?_
          refine xo_42 rfl rfl ?_
          exact H
        · intro hc4 H
          refine xo_0 rfl ?_
          refine xo_12 rfl ?_
          refine xr_42 rfl rfl ?_
          refine xo_4 (lv' := [some (.ref 64), some (.int x1), some (.int x2), some (.int 1)]) rfl rfl rfl ?_
          refine xo_1 rfl rfl ?_
          refine xo_10n rfl (by decide) ?_
          refine xo_2 rfl rfl ?_
          refine xo_13r rfl cr_64_13 ?_
          refine xo_1 rfl rfl ?_
          refine xo_1 rfl rfl ?_
          obtain ⟨hg5, H⟩ := H
          refine xo_22 rfl ca_77 hg5 ?_
          refine xo_1 rfl rfl ?_
          refine xo_42 rfl rfl ?_
          exact H
theorem sm_165 {x1 : Int32} {x2 : Int32} {x3 : Int32} {x4 : Int32} (H : (if x1 < 0 then Q (some (.int 0)) (am_set (am_set h 64 3 0) 64 3 1) o g else (if ((h 68 1) - 1) < x1 then Q (some (.int 0)) (am_set (am_set h 64 3 0) 64 3 1) o g else (if x2 < 0 then Q (some (.int 0)) (am_set (am_set h 64 3 0) 64 3 1) o g else (if ((h 68 0) - 1) < x2 then Q (some (.int 0)) (am_set (am_set h 64 3 0) 64 3 1) o g else (if (h 64 28) = 80 then Q (some (.int (-1))) (am_set (am_set h 64 3 0) 78 1 ((h 78 1) + 1)) o g else (if x3 < 1 then Q (some (.int (-1))) (am_set (am_set h 64 3 0) 78 1 ((h 78 1) + 1)) o g else (if 60 < x3 then Q (some (.int (-1))) (am_set (am_set h 64 3 0) 78 1 ((h 78 1) + 1)) o g else am_X L xs (d + 1) 166 0 [some (.ref 64), some (.int x1), some (.int x2), none] [] am_C0 (am_set h 64 3 0) o g (fun w h' o' g' => am_X L xs (d + 2) 165 52 [some (.ref 64), some (.int x1), some (.int x2), some (.int x3), some (.int x4)] (w.toList ++ []) am_C0 h' o' g' Q T) T)))))))) : am_X L xs (d + 2) 165 0 [some (.ref 64), some (.int x1), some (.int x2), some (.int x3), some (.int x4)] [] am_C0 h o g Q T := by
  refine xo_2 rfl rfl ?_
  refine xo_0 rfl ?_
  refine xo_14 rfl cf_64_3 ?_
  refine xo_2 rfl rfl ?_
  refine xo_1 rfl rfl ?_
  refine cl_157_64 rfl hd_165 rfl ?_
  refine xo_1 rfl rfl ?_
  refine xo_0 rfl ?_
  refine xo_2 rfl rfl ?_
  refine xo_13r rfl cr_64_4 ?_
  refine xo_0 rfl ?_
  refine xo_17 rfl ca_68 (am_ix.lit rfl) ?_
  refine xo_0 rfl ?_
  refine xo_7 rfl rfl ?_
  refine cl_150 rfl hd_157 rfl ?_
  refine xo_1 rfl rfl ?_
  refine xo_1 rfl rfl ?_
  refine xo_11lt rfl (am_sp ?_ ?_ H)
  · intro hc1 H
    refine xo_0 rfl ?_
    refine xr_42 rfl rfl ?_
    refine xr_42 rfl rfl ?_
    refine xo_10 rfl (by decide) ?_
    refine xo_2 rfl rfl ?_
    refine xo_0 rfl ?_
    refine cl_133_64 rfl hd_165 rfl ?_
    refine xo_2 rfl rfl ?_
    refine xo_1 rfl rfl ?_
    refine xo_14 rfl cf_64_3 ?_
    refine xo_0 rfl ?_
    refine xr_41 rfl ?_
    refine xo_41 rfl ?_
    exact H
  · intro hc1 H
    refine xo_1 rfl rfl ?_
    refine xo_1 rfl rfl ?_
    refine xo_11gt rfl (am_sp ?_ ?_ H)
    · intro hc2 H
      refine xo_0 rfl ?_
      refine xr_42 rfl rfl ?_
      refine xr_42 rfl rfl ?_
      refine xo_10 rfl (by decide) ?_
      refine xo_2 rfl rfl ?_
      refine xo_0 rfl ?_
      refine cl_133_64 rfl hd_165 rfl ?_
      refine xo_2 rfl rfl ?_
      refine xo_1 rfl rfl ?_
      refine xo_14 rfl cf_64_3 ?_
      refine xo_0 rfl ?_
      refine xr_41 rfl ?_
      refine xo_41 rfl ?_
      exact H
    · intro hc2 H
      refine xo_0 rfl ?_
      refine xo_12 rfl ?_
      refine xr_42 rfl rfl ?_
      refine xr_42 rfl rfl ?_
      refine xo_10n rfl (by decide) ?_
      refine xo_2 rfl rfl ?_
      refine xo_1 rfl rfl ?_
      refine cl_152_64 rfl hd_165 rfl ?_
      refine xo_1 rfl rfl ?_
      refine xo_0 rfl ?_
      refine xo_2 rfl rfl ?_
      refine xo_13r rfl cr_64_4 ?_
      refine xo_0 rfl ?_
      refine xo_17 rfl ca_68 (am_ix.lit rfl) ?_
      refine xo_0 rfl ?_
      refine xo_7 rfl rfl ?_
      refine cl_150 rfl hd_152 rfl ?_
      refine xo_1 rfl rfl ?_
      refine xo_1 rfl rfl ?_
      refine xo_11lt rfl (am_sp ?_ ?_ H)
      · intro hc3 H
        refine xo_0 rfl ?_
        refine xr_42 rfl rfl ?_
        refine xr_42 rfl rfl ?_
        refine xo_10n rfl (by decide) ?_
        refine xo_2 rfl rfl ?_
        refine xo_0 rfl ?_
        refine cl_133_64 rfl hd_165 rfl ?_
        refine xo_2 rfl rfl ?_
        refine xo_1 rfl rfl ?_
        refine xo_14 rfl cf_64_3 ?_
        refine xo_0 rfl ?_
        refine xr_41 rfl ?_
        refine xo_41 rfl ?_
        exact H
      · intro hc3 H
        refine xo_1 rfl rfl ?_
        refine xo_1 rfl rfl ?_
        refine xo_11gt rfl (am_sp ?_ ?_ H)
        · intro hc4 H
          refine xo_0 rfl ?_
          refine xr_42 rfl rfl ?_
          refine xr_42 rfl rfl ?_
          refine xo_10n rfl (by decide) ?_
          refine xo_2 rfl rfl ?_
          refine xo_0 rfl ?_
          refine cl_133_64 rfl hd_165 rfl ?_
          refine xo_2 rfl rfl ?_
          refine xo_1 rfl rfl ?_
          refine xo_14 rfl cf_64_3 ?_
          refine xo_0 rfl ?_
          refine xr_41 rfl ?_
          refine xo_41 rfl ?_
          exact H
        · intro hc4 H
          refine xo_0 rfl ?_
          refine xo_12 rfl ?_
          refine xr_42 rfl rfl ?_
          refine xr_42 rfl rfl ?_
          refine xo_10 rfl (by decide) ?_
          refine xo_2 rfl rfl ?_
          refine xo_13 rfl cf_64_28 ?_
          refine xo_0 rfl ?_
          refine xo_11eq rfl (am_sp ?_ ?_ H)
          · intro hc5 H
            refine xo_2 rfl rfl ?_
            refine cl_167_64 rfl hd_165 rfl ?_
            refine xo_2 rfl rfl ?_
            refine xo_13r rfl cr_64_14 ?_
            refine xo_0 rfl ?_
            refine xo_29 rfl ⟨rfl, rfl⟩ ?_
            refine xo_17 rfl ca_78 (am_ix.lit rfl) ?_
            refine xo_0 rfl ?_
            refine xo_7 rfl rfl ?_
            refine xo_22 rfl ca_78 (am_ix.lit rfl) ?_
            refine xo_0 rfl ?_
            refine xr_41 rfl ?_
            refine xo_41 rfl ?_
            exact H
          · intro hc5 H
            refine xo_1 rfl rfl ?_
            refine xo_0 rfl ?_
            refine xo_0 rfl ?_
            refine cl_150 rfl hd_165 rfl ?_
            refine xo_1 rfl rfl ?_
            refine xo_1 rfl rfl ?_
            refine xo_11lt rfl (am_sp ?_ ?_ H)
            · intro hc6 H
              refine xo_0 rfl ?_
              refine xr_42 rfl rfl ?_
              refine xo_10 rfl (by decide) ?_
              refine xo_2 rfl rfl ?_
              refine cl_167_64 rfl hd_165 rfl ?_
              refine xo_2 rfl rfl ?_
              refine xo_13r rfl cr_64_14 ?_
              refine xo_0 rfl ?_
              refine xo_29 rfl ⟨rfl, rfl⟩ ?_
              refine xo_17 rfl ca_78 (am_ix.lit rfl) ?_
              refine xo_0 rfl ?_
              refine xo_7 rfl rfl ?_
              refine xo_22 rfl ca_78 (am_ix.lit rfl) ?_
              refine xo_0 rfl ?_
              refine xr_41 rfl ?_
              refine xo_41 rfl ?_
              exact H
            · intro hc6 H
              refine xo_1 rfl rfl ?_
              refine xo_1 rfl rfl ?_
              refine xo_11gt rfl (am_sp ?_ ?_ H)
              · intro hc7 H
                refine xo_0 rfl ?_
                refine xr_42 rfl rfl ?_
                refine xo_10 rfl (by decide) ?_
                refine xo_2 rfl rfl ?_
                refine cl_167_64 rfl hd_165 rfl ?_
                refine xo_2 rfl rfl ?_
                refine xo_13r rfl cr_64_14 ?_
                refine xo_0 rfl ?_
                refine xo_29 rfl ⟨rfl, rfl⟩ ?_
                refine xo_17 rfl ca_78 (am_ix.lit rfl) ?_
                refine xo_0 rfl ?_
                refine xo_7 rfl rfl ?_
                refine xo_22 rfl ca_78 (am_ix.lit rfl) ?_
                refine xo_0 rfl ?_
                refine xr_41 rfl ?_
                refine xo_41 rfl ?_
                exact H
              · intro hc7 H
                refine xo_0 rfl ?_
                refine xo_12 rfl ?_
                refine xr_42 rfl rfl ?_
                refine xo_10n rfl (by decide) ?_
                refine xo_2 rfl rfl ?_
                refine xo_1 rfl rfl ?_
                refine xo_1 rfl rfl ?_
                refine cl_166_64 rfl hd_165 rfl ?_
                exact H
theorem sm_165_52 {x1 : Int32} {x2 : Int32} {x3 : Int32} {x4 : Int32} {z0 : Int32} (H : (if z0 = 0 then am_X L xs d 153 0 [some (.ref 64), some (.int x2), none] [] am_C0 h o g (fun w h' o' g' => am_X L xs (d + 1) 165 65 [some (.ref 64), some (.int x1), some (.int x2), some (.int x3), some (.int x4)] (w.toList ++ []) am_C0 h' o' g' Q T) T else Q (some (.int (-1))) (am_set h 78 1 ((h 78 1) + 1)) o g)) : am_X L xs (d + 1) 165 52 [some (.ref 64), some (.int x1), some (.int x2), some (.int x3), some (.int x4)] [.int z0] am_C0 h o g Q T := by
  refine xo_10eq rfl (am_sp ?_ ?_ H)
  · intro hc1 H
    refine xo_2 rfl rfl ?_
    refine xo_1 rfl rfl ?_
    refine cl_153_64 rfl hd_165 rfl ?_
    exact H
  · intro hc1 H
    refine xo_2 rfl rfl ?_
    refine cl_167_64 rfl hd_165 rfl ?_
    refine xo_2 rfl rfl ?_
    refine xo_13r rfl cr_64_14 ?_
    refine xo_0 rfl ?_
    refine xo_29 rfl ⟨rfl, rfl⟩ ?_
    refine xo_17 rfl ca_78 (am_ix.lit rfl) ?_
    refine xo_0 rfl ?_
    refine xo_7 rfl rfl ?_
    refine xo_22 rfl ca_78 (am_ix.lit rfl) ?_
    refine xo_0 rfl ?_
    refine xr_41 rfl ?_
    refine xo_41 rfl ?_
    exact H
theorem sm_165_65 {x1 : Int32} {x2 : Int32} {x3 : Int32} {x4 : Int32} (H : (if x4 = 0 then (if (if (x3 - 1) < (h 64 36) then (x3 - 1) else (h 64 36)) < (h 64 35) then Q (some (.int (-1))) (am_set (am_set h 64 36 (if (x3 - 1) < (h 64 36) then (x3 - 1) else (h 64 36))) 78 1 ((h 78 1) + 1)) o g else (am_ix (h 64 28) 80 ∧ Q (some (.int ((h 64 28) + 1))) (am_set (am_set (am_set (am_set (am_set (am_set (am_set (am_set h 64 36 (if (x3 - 1) < (h 64 36) then (x3 - 1) else (h 64 36))) 82 ((h 64 28).toNatClampNeg) x1) 83 ((h 64 28).toNatClampNeg) (-1)) 84 ((h 64 28).toNatClampNeg) x2) 85 ((h 64 28).toNatClampNeg) x3) 87 ((h 64 28).toNatClampNeg) (vp_nar .boolean x4)) 86 ((h 64 28).toNatClampNeg) 0) 64 28 ((h 64 28) + 1)) o g)) else (if (h 64 36) < (if (h 64 35) < x3 then x3 else (h 64 35)) then Q (some (.int (-1))) (am_set (am_set h 64 35 (if (h 64 35) < x3 then x3 else (h 64 35))) 78 1 ((h 78 1) + 1)) o g else (am_ix (h 64 28) 80 ∧ Q (some (.int ((h 64 28) + 1))) (am_set (am_set (am_set (am_set (am_set (am_set (am_set (am_set h 64 35 (if (h 64 35) < x3 then x3 else (h 64 35))) 82 ((h 64 28).toNatClampNeg) x1) 83 ((h 64 28).toNatClampNeg) (-1)) 84 ((h 64 28).toNatClampNeg) x2) 85 ((h 64 28).toNatClampNeg) x3) 87 ((h 64 28).toNatClampNeg) (vp_nar .boolean x4)) 86 ((h 64 28).toNatClampNeg) 0) 64 28 ((h 64 28) + 1)) o g)))) : am_X L xs (d + 1) 165 65 [some (.ref 64), some (.int x1), some (.int x2), some (.int x3), some (.int x4)] [] am_C0 h o g Q T := by
  refine xo_2 rfl rfl ?_
  refine xo_1 rfl rfl ?_
  refine xo_1 rfl rfl ?_
  refine cl_155_64 rfl hd_165 rfl ?_
  refine xo_1 rfl rfl ?_
  refine xo_10eq rfl (am_sp ?_ ?_ H)
  · intro hc1 H
    refine xo_2 rfl rfl ?_
    refine xo_2 rfl rfl ?_
    refine xo_13 rfl cf_64_36 ?_
    refine xo_1 rfl rfl ?_
    refine xo_0 rfl ?_
    refine xo_7 rfl rfl ?_
    refine xo_47n rfl (Nat.le_of_ble_eq_true rfl) ?_
    refine xo_14 rfl cf_64_36 ?_
    refine xr_44 rfl ?_
    refine xo_2 rfl rfl ?_
    refine xo_13 rfl cf_64_35 ?_
    refine xo_2 rfl rfl ?_
    refine xo_13 rfl cf_64_36 ?_
    refine xo_11le rfl (am_sp ?_ ?_ H)
    · intro hc2 H
      refine xo_2 rfl rfl ?_
      refine cl_167_64 rfl hd_165 rfl ?_
      refine xo_2 rfl rfl ?_
      refine xo_13r rfl cr_64_14 ?_
      refine xo_0 rfl ?_
      refine xo_29 rfl ⟨rfl, rfl⟩ ?_
      refine xo_17 rfl ca_78 (am_ix.lit rfl) ?_
      refine xo_0 rfl ?_
      refine xo_7 rfl rfl ?_
      refine xo_22 rfl ca_78 (am_ix.lit rfl) ?_
      refine xo_0 rfl ?_
      refine xr_41 rfl ?_
      refine xo_12 rfl ?_
      refine xo_41 rfl ?_
      exact H
    · intro hc2 H
      refine xo_2 rfl rfl ?_
      refine xo_1 rfl rfl ?_
      refine xo_0 rfl ?_
      refine xo_1 rfl rfl ?_
      refine xo_1 rfl rfl ?_
      refine xo_1 rfl rfl ?_
      refine xo_0 rfl ?_
      refine cl_168_64 rfl hd_165 rfl ?_
      refine xo_2 rfl rfl ?_
      refine xo_13r rfl cr_64_29 ?_
      refine xo_2 rfl rfl ?_
      refine xo_13 rfl cf_64_28 ?_
      refine xo_1 rfl rfl ?_
      obtain ⟨hg3, H⟩ := H
      refine xo_22 rfl ca_82 hg3 ?_
      refine xo_2 rfl rfl ?_
      refine xo_13r rfl cr_64_30 ?_
      refine xo_2 rfl rfl ?_
      refine xo_13 rfl cf_64_28 ?_
      refine xo_1 rfl rfl ?_
      refine xo_22 rfl ca_83 hg3 ?_
      refine xo_2 rfl rfl ?_
      refine xo_13r rfl cr_64_31 ?_
      refine xo_2 rfl rfl ?_
      refine xo_13 rfl cf_64_28 ?_
      refine xo_1 rfl rfl ?_
      refine xo_22 rfl ca_84 hg3 ?_
      refine xo_2 rfl rfl ?_
      refine xo_13r rfl cr_64_32 ?_
      refine xo_2 rfl rfl ?_
      refine xo_13 rfl cf_64_28 ?_
      refine xo_1 rfl rfl ?_
      refine xo_22 rfl ca_85 hg3 ?_
      refine xo_2 rfl rfl ?_
      refine xo_13r rfl cr_64_34 ?_
      refine xo_2 rfl rfl ?_
      refine xo_13 rfl cf_64_28 ?_
      refine xo_1 rfl rfl ?_
      refine xo_23b rfl ca_87 hg3 ?_
      refine xo_2 rfl rfl ?_
      refine xo_13r rfl cr_64_33 ?_
      refine xo_2 rfl rfl ?_
      refine xo_13 rfl cf_64_28 ?_
      refine xo_1 rfl rfl ?_
      refine xo_22 rfl ca_86 hg3 ?_
      refine xo_2 rfl rfl ?_
      refine xo_28 rfl rfl ?_
      refine xo_13 rfl cf_64_28 ?_
      refine xo_0 rfl ?_
      refine xo_7 rfl rfl ?_
      refine xo_14 rfl cf_64_28 ?_
      refine xo_2 rfl rfl ?_
      refine xo_13 rfl cf_64_28 ?_
      refine xr_41 rfl ?_
      refine xo_41 rfl ?_
      exact H
  · intro hc1 H
    refine xo_2 rfl rfl ?_
    refine xo_2 rfl rfl ?_
    refine xo_13 rfl cf_64_35 ?_
    refine xo_1 rfl rfl ?_
    refine xo_47x rfl (Nat.le_of_ble_eq_true rfl) ?_
    refine xo_14 rfl cf_64_35 ?_
    refine xo_12 rfl ?_
    refine xr_44 rfl ?_
    refine xo_2 rfl rfl ?_
    refine xo_13 rfl cf_64_35 ?_
    refine xo_2 rfl rfl ?_
    refine xo_13 rfl cf_64_36 ?_
    refine xo_11le rfl (am_sp ?_ ?_ H)
    · intro hc4 H
      refine xo_2 rfl rfl ?_
      refine cl_167_64 rfl hd_165 rfl ?_
      refine xo_2 rfl rfl ?_
      refine xo_13r rfl cr_64_14 ?_
      refine xo_0 rfl ?_
      refine xo_29 rfl ⟨rfl, rfl⟩ ?_
      refine xo_17 rfl ca_78 (am_ix.lit rfl) ?_
      refine xo_0 rfl ?_
      refine xo_7 rfl rfl ?_
      refine xo_22 rfl ca_78 (am_ix.lit rfl) ?_
      refine xo_0 rfl ?_
      refine xr_41 rfl ?_
      refine xo_12 rfl ?_
      refine xo_41 rfl ?_
      exact H
    · intro hc4 H
      refine xo_2 rfl rfl ?_
      refine xo_1 rfl rfl ?_
      refine xo_0 rfl ?_
      refine xo_1 rfl rfl ?_
      refine xo_1 rfl rfl ?_
      refine xo_1 rfl rfl ?_
      refine xo_0 rfl ?_
      refine cl_168_64 rfl hd_165 rfl ?_
      refine xo_2 rfl rfl ?_
      refine xo_13r rfl cr_64_29 ?_
      refine xo_2 rfl rfl ?_
      refine xo_13 rfl cf_64_28 ?_
      refine xo_1 rfl rfl ?_
      obtain ⟨hg5, H⟩ := H
      refine xo_22 rfl ca_82 hg5 ?_
      refine xo_2 rfl rfl ?_
      refine xo_13r rfl cr_64_30 ?_
      refine xo_2 rfl rfl ?_
      refine xo_13 rfl cf_64_28 ?_
      refine xo_1 rfl rfl ?_
      refine xo_22 rfl ca_83 hg5 ?_
      refine xo_2 rfl rfl ?_
      refine xo_13r rfl cr_64_31 ?_
      refine xo_2 rfl rfl ?_
      refine xo_13 rfl cf_64_28 ?_
      refine xo_1 rfl rfl ?_
      refine xo_22 rfl ca_84 hg5 ?_
      refine xo_2 rfl rfl ?_
      refine xo_13r rfl cr_64_32 ?_
      refine xo_2 rfl rfl ?_
      refine xo_13 rfl cf_64_28 ?_
      refine xo_1 rfl rfl ?_
      refine xo_22 rfl ca_85 hg5 ?_
      refine xo_2 rfl rfl ?_
      refine xo_13r rfl cr_64_34 ?_
      refine xo_2 rfl rfl ?_
      refine xo_13 rfl cf_64_28 ?_
      refine xo_1 rfl rfl ?_
      refine xo_23b rfl ca_87 hg5 ?_
      refine xo_2 rfl rfl ?_
      refine xo_13r rfl cr_64_33 ?_
      refine xo_2 rfl rfl ?_
      refine xo_13 rfl cf_64_28 ?_
      refine xo_1 rfl rfl ?_
      refine xo_22 rfl ca_86 hg5 ?_
      refine xo_2 rfl rfl ?_
      refine xo_28 rfl rfl ?_
      refine xo_13 rfl cf_64_28 ?_
      refine xo_0 rfl ?_
      refine xo_7 rfl rfl ?_
      refine xo_14 rfl cf_64_28 ?_
      refine xo_2 rfl rfl ?_
      refine xo_13 rfl cf_64_28 ?_
      refine xr_41 rfl ?_
      refine xo_41 rfl ?_
      exact H
theorem sm_166 {x1 : Int32} {x2 : Int32} (H : am_X L xs d 166 2 [some (.ref 64), some (.int x1), some (.int x2), some (.int 0)] [] am_C0 h o g Q T) : am_X L xs d 166 0 [some (.ref 64), some (.int x1), some (.int x2), none] [] am_C0 h o g Q T := by
  refine xo_0 rfl ?_
  refine xo_4 (lv' := [some (.ref 64), some (.int x1), some (.int x2), some (.int 0)]) rfl rfl rfl ?_
  exact H
theorem sm_166_2 {x1 : Int32} {x2 : Int32} {x3 : Int32} (H : (if x3 < (h 64 28) then (am_ix x3 80 ∧ (if (h 83 x3.toNatClampNeg) = (-1) then (if (h 82 x3.toNatClampNeg) = x1 then (if (h 84 x3.toNatClampNeg) = x2 then Q (some (.int 1)) h o g else am_X L xs d 166 2 [some (.ref 64), some (.int x1), some (.int x2), some (.int (x3 + 1))] [] am_C0 h o g Q T) else am_X L xs d 166 2 [some (.ref 64), some (.int x1), some (.int x2), some (.int (x3 + 1))] [] am_C0 h o g Q T) else am_X L xs d 166 2 [some (.ref 64), some (.int x1), some (.int x2), some (.int (x3 + 1))] [] am_C0 h o g Q T)) else Q (some (.int 0)) h o g)) : am_X L xs d 166 2 [some (.ref 64), some (.int x1), some (.int x2), some (.int x3)] [] am_C0 h o g Q T := by
  refine xo_1 rfl rfl ?_
  refine xo_2 rfl rfl ?_
  refine xo_13 rfl cf_64_28 ?_
  refine xo_11ge rfl (am_sp ?_ ?_ H)
  · intro hc1 H
    refine xo_2 rfl rfl ?_
    refine xo_13r rfl cr_64_30 ?_
    refine xo_1 rfl rfl ?_
    obtain ⟨hg2, H⟩ := H
    refine xo_17 rfl ca_83 hg2 ?_
    refine xo_0 rfl ?_
    refine xo_11ne rfl (am_sp ?_ ?_ H)
    · intro hc3 H
      refine xo_2 rfl rfl ?_
      refine xo_13r rfl cr_64_29 ?_
      refine xo_1 rfl rfl ?_
      refine xo_17 rfl ca_82 hg2 ?_
      refine xo_1 rfl rfl ?_
      refine xo_11ne rfl (am_sp ?_ ?_ H)
      · intro hc4 H
        refine xo_2 rfl rfl ?_
        refine xo_13r rfl cr_64_31 ?_
        refine xo_1 rfl rfl ?_
        refine xo_17 rfl ca_84 hg2 ?_
        refine xo_1 rfl rfl ?_
        refine xo_11ne rfl (am_sp ?_ ?_ H)
        · intro hc5 H
          refine xo_0 rfl ?_
          refine xo_42 rfl rfl ?_
          exact H
        · intro hc5 H
          refine xo_9 (z := (x3 + 1)) (lv' := [some (.ref 64), some (.int x1), some (.int x2), some (.int (x3 + 1))]) rfl rfl rfl rfl rfl ?_
          refine xo_12 rfl ?_
          exact H
      · intro hc4 H
        refine xo_9 (z := (x3 + 1)) (lv' := [some (.ref 64), some (.int x1), some (.int x2), some (.int (x3 + 1))]) rfl rfl rfl rfl rfl ?_
        refine xo_12 rfl ?_
        exact H
    · intro hc3 H
      refine xo_9 (z := (x3 + 1)) (lv' := [some (.ref 64), some (.int x1), some (.int x2), some (.int (x3 + 1))]) rfl rfl rfl rfl rfl ?_
      refine xo_12 rfl ?_
      exact H
  · intro hc1 H
    refine xo_0 rfl ?_
    refine xo_42 rfl rfl ?_
    exact H
theorem sm_169 {x1 : Int32} {x2 : Int32} {x3 : Int32} {x4 : Int32} {x5 : Int32} {x6 : Int32} (H : (if x1 < 0 then Q (some (.int 0)) (am_set (am_set h 64 3 0) 64 3 1) o g else (if ((h 68 1) - 1) < x1 then Q (some (.int 0)) (am_set (am_set h 64 3 0) 64 3 1) o g else (if x2 < 0 then Q (some (.int 0)) (am_set (am_set h 64 3 0) 64 3 1) o g else (if ((h 68 1) - 1) < x2 then Q (some (.int 0)) (am_set (am_set h 64 3 0) 64 3 1) o g else (if x3 < 0 then Q (some (.int 0)) (am_set (am_set h 64 3 0) 64 3 1) o g else (if ((h 68 0) - 1) < x3 then Q (some (.int 0)) (am_set (am_set h 64 3 0) 64 3 1) o g else (if (h 64 28) = 80 then Q (some (.int (-1))) (am_set (am_set h 64 3 0) 78 1 ((h 78 1) + 1)) o g else (if x1 = x2 then Q (some (.int (-1))) (am_set (am_set h 64 3 0) 78 1 ((h 78 1) + 1)) o g else (if x4 < 1 then Q (some (.int (-1))) (am_set (am_set h 64 3 0) 78 1 ((h 78 1) + 1)) o g else (if 60 < x4 then Q (some (.int (-1))) (am_set (am_set h 64 3 0) 78 1 ((h 78 1) + 1)) o g else (if x6 < 0 then Q (some (.int (-1))) (am_set (am_set h 64 3 0) 78 1 ((h 78 1) + 1)) o g else (if 999 < x6 then Q (some (.int (-1))) (am_set (am_set h 64 3 0) 78 1 ((h 78 1) + 1)) o g else (am_ix (h 64 28) 80 ∧ Q (some (.int ((h 64 28) + 1))) (am_set (am_set (am_set (am_set (am_set (am_set (am_set (am_set h 64 3 0) 82 ((h 64 28).toNatClampNeg) x1) 83 ((h 64 28).toNatClampNeg) x2) 84 ((h 64 28).toNatClampNeg) x3) 85 ((h 64 28).toNatClampNeg) x4) 87 ((h 64 28).toNatClampNeg) (vp_nar .boolean x5)) 86 ((h 64 28).toNatClampNeg) x6) 64 28 ((h 64 28) + 1)) o g)))))))))))))) : am_X L xs (d + 2) 169 0 [some (.ref 64), some (.int x1), some (.int x2), some (.int x3), some (.int x4), some (.int x5), some (.int x6)] [] am_C0 h o g Q T := by
  refine xo_2 rfl rfl ?_
  refine xo_0 rfl ?_
  refine xo_14 rfl cf_64_3 ?_
  refine xo_2 rfl rfl ?_
  refine xo_1 rfl rfl ?_
  refine cl_157_64 rfl hd_169 rfl ?_
  refine xo_1 rfl rfl ?_
  refine xo_0 rfl ?_
  refine xo_2 rfl rfl ?_
  refine xo_13r rfl cr_64_4 ?_
  refine xo_0 rfl ?_
  refine xo_17 rfl ca_68 (am_ix.lit rfl) ?_
  refine xo_0 rfl ?_
  refine xo_7 rfl rfl ?_
  refine cl_150 rfl hd_157 rfl ?_
  refine xo_1 rfl rfl ?_
  refine xo_1 rfl rfl ?_
  refine xo_11lt rfl (am_sp ?_ ?_ H)
  · intro hc1 H
    refine xo_0 rfl ?_
    refine xr_42 rfl rfl ?_
    refine xr_42 rfl rfl ?_
    refine xo_10 rfl (by decide) ?_
    refine xo_2 rfl rfl ?_
    refine xo_0 rfl ?_
    refine cl_133_64 rfl hd_169 rfl ?_
    refine xo_2 rfl rfl ?_
    refine xo_1 rfl rfl ?_
    refine xo_14 rfl cf_64_3 ?_
    refine xo_0 rfl ?_
    refine xr_41 rfl ?_
    refine xo_41 rfl ?_
    exact H
  · intro hc1 H
    refine xo_1 rfl rfl ?_
    refine xo_1 rfl rfl ?_
    refine xo_11gt rfl (am_sp ?_ ?_ H)
    · intro hc2 H
      refine xo_0 rfl ?_
      refine xr_42 rfl rfl ?_
      refine xr_42 rfl rfl ?_
      refine xo_10 rfl (by decide) ?_
      refine xo_2 rfl rfl ?_
      refine xo_0 rfl ?_
      refine cl_133_64 rfl hd_169 rfl ?_
      refine xo_2 rfl rfl ?_
      refine xo_1 rfl rfl ?_
      refine xo_14 rfl cf_64_3 ?_
      refine xo_0 rfl ?_
      refine xr_41 rfl ?_
      refine xo_41 rfl ?_
      exact H
    · intro hc2 H
      refine xo_0 rfl ?_
      refine xo_12 rfl ?_
      refine xr_42 rfl rfl ?_
      refine xr_42 rfl rfl ?_
      refine xo_10n rfl (by decide) ?_
      refine xo_2 rfl rfl ?_
      refine xo_1 rfl rfl ?_
      refine cl_157_64 rfl hd_169 rfl ?_
      refine xo_1 rfl rfl ?_
      refine xo_0 rfl ?_
      refine xo_2 rfl rfl ?_
      refine xo_13r rfl cr_64_4 ?_
      refine xo_0 rfl ?_
      refine xo_17 rfl ca_68 (am_ix.lit rfl) ?_
      refine xo_0 rfl ?_
      refine xo_7 rfl rfl ?_
      refine cl_150 rfl hd_157 rfl ?_
      refine xo_1 rfl rfl ?_
      refine xo_1 rfl rfl ?_
      refine xo_11lt rfl (am_sp ?_ ?_ H)
      · intro hc3 H
        refine xo_0 rfl ?_
        refine xr_42 rfl rfl ?_
        refine xr_42 rfl rfl ?_
        refine xo_10 rfl (by decide) ?_
        refine xo_2 rfl rfl ?_
        refine xo_0 rfl ?_
        refine cl_133_64 rfl hd_169 rfl ?_
        refine xo_2 rfl rfl ?_
        refine xo_1 rfl rfl ?_
        refine xo_14 rfl cf_64_3 ?_
        refine xo_0 rfl ?_
        refine xr_41 rfl ?_
        refine xo_41 rfl ?_
        exact H
      · intro hc3 H
        refine xo_1 rfl rfl ?_
        refine xo_1 rfl rfl ?_
        refine xo_11gt rfl (am_sp ?_ ?_ H)
        · intro hc4 H
          refine xo_0 rfl ?_
          refine xr_42 rfl rfl ?_
          refine xr_42 rfl rfl ?_
          refine xo_10 rfl (by decide) ?_
          refine xo_2 rfl rfl ?_
          refine xo_0 rfl ?_
          refine cl_133_64 rfl hd_169 rfl ?_
          refine xo_2 rfl rfl ?_
          refine xo_1 rfl rfl ?_
          refine xo_14 rfl cf_64_3 ?_
          refine xo_0 rfl ?_
          refine xr_41 rfl ?_
          refine xo_41 rfl ?_
          exact H
        · intro hc4 H
          refine xo_0 rfl ?_
          refine xo_12 rfl ?_
          refine xr_42 rfl rfl ?_
          refine xr_42 rfl rfl ?_
          refine xo_10n rfl (by decide) ?_
          refine xo_2 rfl rfl ?_
          refine xo_1 rfl rfl ?_
          refine cl_152_64 rfl hd_169 rfl ?_
          refine xo_1 rfl rfl ?_
          refine xo_0 rfl ?_
          refine xo_2 rfl rfl ?_
          refine xo_13r rfl cr_64_4 ?_
          refine xo_0 rfl ?_
          refine xo_17 rfl ca_68 (am_ix.lit rfl) ?_
          refine xo_0 rfl ?_
          refine xo_7 rfl rfl ?_
          refine cl_150 rfl hd_152 rfl ?_
          refine xo_1 rfl rfl ?_
          refine xo_1 rfl rfl ?_
          refine xo_11lt rfl (am_sp ?_ ?_ H)
          · intro hc5 H
            refine xo_0 rfl ?_
            refine xr_42 rfl rfl ?_
            refine xr_42 rfl rfl ?_
            refine xo_10n rfl (by decide) ?_
            refine xo_2 rfl rfl ?_
            refine xo_0 rfl ?_
            refine cl_133_64 rfl hd_169 rfl ?_
            refine xo_2 rfl rfl ?_
            refine xo_1 rfl rfl ?_
            refine xo_14 rfl cf_64_3 ?_
            refine xo_0 rfl ?_
            refine xr_41 rfl ?_
            refine xo_41 rfl ?_
            exact H
          · intro hc5 H
            refine xo_1 rfl rfl ?_
            refine xo_1 rfl rfl ?_
            refine xo_11gt rfl (am_sp ?_ ?_ H)
            · intro hc6 H
              refine xo_0 rfl ?_
              refine xr_42 rfl rfl ?_
              refine xr_42 rfl rfl ?_
              refine xo_10n rfl (by decide) ?_
              refine xo_2 rfl rfl ?_
              refine xo_0 rfl ?_
              refine cl_133_64 rfl hd_169 rfl ?_
              refine xo_2 rfl rfl ?_
              refine xo_1 rfl rfl ?_
              refine xo_14 rfl cf_64_3 ?_
              refine xo_0 rfl ?_
              refine xr_41 rfl ?_
              refine xo_41 rfl ?_
              exact H
            · intro hc6 H
              refine xo_0 rfl ?_
              refine xo_12 rfl ?_
              refine xr_42 rfl rfl ?_
              refine xr_42 rfl rfl ?_
              refine xo_10 rfl (by decide) ?_
              refine xo_2 rfl rfl ?_
              refine xo_13 rfl cf_64_28 ?_
              refine xo_0 rfl ?_
              refine xo_11eq rfl (am_sp ?_ ?_ H)
              · intro hc7 H
                refine xo_2 rfl rfl ?_
                refine cl_167_64 rfl hd_169 rfl ?_
                refine xo_2 rfl rfl ?_
                refine xo_13r rfl cr_64_14 ?_
                refine xo_0 rfl ?_
                refine xo_29 rfl ⟨rfl, rfl⟩ ?_
                refine xo_17 rfl ca_78 (am_ix.lit rfl) ?_
                refine xo_0 rfl ?_
                refine xo_7 rfl rfl ?_
                refine xo_22 rfl ca_78 (am_ix.lit rfl) ?_
                refine xo_0 rfl ?_
                refine xr_41 rfl ?_
                refine xo_12 rfl ?_
                refine xo_41 rfl ?_
                exact H
              · intro hc7 H
                refine xo_1 rfl rfl ?_
                refine xo_1 rfl rfl ?_
                refine xo_11eq rfl (am_sp ?_ ?_ H)
                · intro hc8 H
                  refine xo_2 rfl rfl ?_
                  refine cl_167_64 rfl hd_169 rfl ?_
                  refine xo_2 rfl rfl ?_
                  refine xo_13r rfl cr_64_14 ?_
                  refine xo_0 rfl ?_
                  refine xo_29 rfl ⟨rfl, rfl⟩ ?_
                  refine xo_17 rfl ca_78 (am_ix.lit rfl) ?_
                  refine xo_0 rfl ?_
                  refine xo_7 rfl rfl ?_
                  refine xo_22 rfl ca_78 (am_ix.lit rfl) ?_
                  refine xo_0 rfl ?_
                  refine xr_41 rfl ?_
                  refine xo_12 rfl ?_
                  refine xo_41 rfl ?_
                  exact H
                · intro hc8 H
                  refine xo_1 rfl rfl ?_
                  refine xo_0 rfl ?_
                  refine xo_0 rfl ?_
                  refine cl_150 rfl hd_169 rfl ?_
                  refine xo_1 rfl rfl ?_
                  refine xo_1 rfl rfl ?_
                  refine xo_11lt rfl (am_sp ?_ ?_ H)
                  · intro hc9 H
                    refine xo_0 rfl ?_
                    refine xr_42 rfl rfl ?_
                    refine xo_10 rfl (by decide) ?_
                    refine xo_2 rfl rfl ?_
                    refine cl_167_64 rfl hd_169 rfl ?_
                    refine xo_2 rfl rfl ?_
                    refine xo_13r rfl cr_64_14 ?_
                    refine xo_0 rfl ?_
                    refine xo_29 rfl ⟨rfl, rfl⟩ ?_
                    refine xo_17 rfl ca_78 (am_ix.lit rfl) ?_
                    refine xo_0 rfl ?_
                    refine xo_7 rfl rfl ?_
                    refine xo_22 rfl ca_78 (am_ix.lit rfl) ?_
                    refine xo_0 rfl ?_
                    refine xr_41 rfl ?_
                    refine xo_12 rfl ?_
                    refine xo_41 rfl ?_
                    exact H
                  · intro hc9 H
                    refine xo_1 rfl rfl ?_
                    refine xo_1 rfl rfl ?_
                    refine xo_11gt rfl (am_sp ?_ ?_ H)
                    · intro hc10 H
                      refine xo_0 rfl ?_
                      refine xr_42 rfl rfl ?_
                      refine xo_10 rfl (by decide) ?_
                      refine xo_2 rfl rfl ?_
                      refine cl_167_64 rfl hd_169 rfl ?_
                      refine xo_2 rfl rfl ?_
                      refine xo_13r rfl cr_64_14 ?_
                      refine xo_0 rfl ?_
                      refine xo_29 rfl ⟨rfl, rfl⟩ ?_
                      refine xo_17 rfl ca_78 (am_ix.lit rfl) ?_
                      refine xo_0 rfl ?_
                      refine xo_7 rfl rfl ?_
                      refine xo_22 rfl ca_78 (am_ix.lit rfl) ?_
                      refine xo_0 rfl ?_
                      refine xr_41 rfl ?_
                      refine xo_12 rfl ?_
                      refine xo_41 rfl ?_
                      exact H
                    · intro hc10 H
                      refine xo_0 rfl ?_
                      refine xo_12 rfl ?_
                      refine xr_42 rfl rfl ?_
                      refine xo_10n rfl (by decide) ?_
                      refine xo_1 rfl rfl ?_
                      refine xo_0 rfl ?_
                      refine xo_0 rfl ?_
                      refine cl_150 rfl hd_169 rfl ?_
                      refine xo_1 rfl rfl ?_
                      refine xo_1 rfl rfl ?_
                      refine xo_11lt rfl (am_sp ?_ ?_ H)
                      · intro hc11 H
                        refine xo_0 rfl ?_
                        refine xr_42 rfl rfl ?_
                        refine xo_10n rfl (by decide) ?_
                        refine xo_2 rfl rfl ?_
                        refine cl_167_64 rfl hd_169 rfl ?_
                        refine xo_2 rfl rfl ?_
                        refine xo_13r rfl cr_64_14 ?_
                        refine xo_0 rfl ?_
                        refine xo_29 rfl ⟨rfl, rfl⟩ ?_
                        refine xo_17 rfl ca_78 (am_ix.lit rfl) ?_
                        refine xo_0 rfl ?_
                        refine xo_7 rfl rfl ?_
                        refine xo_22 rfl ca_78 (am_ix.lit rfl) ?_
                        refine xo_0 rfl ?_
                        refine xr_41 rfl ?_
                        refine xo_12 rfl ?_
                        refine xo_41 rfl ?_
                        exact H
                      · intro hc11 H
                        refine xo_1 rfl rfl ?_
                        refine xo_1 rfl rfl ?_
                        refine xo_11gt rfl (am_sp ?_ ?_ H)
                        · intro hc12 H
                          refine xo_0 rfl ?_
                          refine xr_42 rfl rfl ?_
                          refine xo_10n rfl (by decide) ?_
                          refine xo_2 rfl rfl ?_
                          refine cl_167_64 rfl hd_169 rfl ?_
                          refine xo_2 rfl rfl ?_
                          refine xo_13r rfl cr_64_14 ?_
                          refine xo_0 rfl ?_
                          refine xo_29 rfl ⟨rfl, rfl⟩ ?_
                          refine xo_17 rfl ca_78 (am_ix.lit rfl) ?_
                          refine xo_0 rfl ?_
                          refine xo_7 rfl rfl ?_
                          refine xo_22 rfl ca_78 (am_ix.lit rfl) ?_
                          refine xo_0 rfl ?_
                          refine xr_41 rfl ?_
                          refine xo_12 rfl ?_
                          refine xo_41 rfl ?_
                          exact H
                        · intro hc12 H
                          refine xo_0 rfl ?_
                          refine xo_12 rfl ?_
                          refine xr_42 rfl rfl ?_
                          refine xo_10 rfl (by decide) ?_
                          refine xo_2 rfl rfl ?_
                          refine xo_1 rfl rfl ?_
                          refine xo_1 rfl rfl ?_
                          refine xo_1 rfl rfl ?_
                          refine xo_1 rfl rfl ?_
                          refine xo_1 rfl rfl ?_
                          refine xo_1 rfl rfl ?_
                          refine cl_168_64 rfl hd_169 rfl ?_
                          refine xo_2 rfl rfl ?_
                          refine xo_13r rfl cr_64_29 ?_
                          refine xo_2 rfl rfl ?_
                          refine xo_13 rfl cf_64_28 ?_
                          refine xo_1 rfl rfl ?_
                          obtain ⟨hg13, H⟩ := H
                          refine xo_22 rfl ca_82 hg13 ?_
                          refine xo_2 rfl rfl ?_
                          refine xo_13r rfl cr_64_30 ?_
                          refine xo_2 rfl rfl ?_
                          refine xo_13 rfl cf_64_28 ?_
                          refine xo_1 rfl rfl ?_
                          refine xo_22 rfl ca_83 hg13 ?_
                          refine xo_2 rfl rfl ?_
                          refine xo_13r rfl cr_64_31 ?_
                          refine xo_2 rfl rfl ?_
                          refine xo_13 rfl cf_64_28 ?_
                          refine xo_1 rfl rfl ?_
                          refine xo_22 rfl ca_84 hg13 ?_
                          refine xo_2 rfl rfl ?_
                          refine xo_13r rfl cr_64_32 ?_
                          refine xo_2 rfl rfl ?_
                          refine xo_13 rfl cf_64_28 ?_
                          refine xo_1 rfl rfl ?_
                          refine xo_22 rfl ca_85 hg13 ?_
                          refine xo_2 rfl rfl ?_
                          refine xo_13r rfl cr_64_34 ?_
                          refine xo_2 rfl rfl ?_
                          refine xo_13 rfl cf_64_28 ?_
                          refine xo_1 rfl rfl ?_
                          refine xo_23b rfl ca_87 hg13 ?_
                          refine xo_2 rfl rfl ?_
                          refine xo_13r rfl cr_64_33 ?_
                          refine xo_2 rfl rfl ?_
                          refine xo_13 rfl cf_64_28 ?_
                          refine xo_1 rfl rfl ?_
                          refine xo_22 rfl ca_86 hg13 ?_
                          refine xo_2 rfl rfl ?_
                          refine xo_28 rfl rfl ?_
                          refine xo_13 rfl cf_64_28 ?_
                          refine xo_0 rfl ?_
                          refine xo_7 rfl rfl ?_
                          refine xo_14 rfl cf_64_28 ?_
                          refine xo_2 rfl rfl ?_
                          refine xo_13 rfl cf_64_28 ?_
                          refine xr_41 rfl ?_
                          refine xo_41 rfl ?_
                          exact H
theorem sm_170 (H : (if (h 64 28) = 0 then Q (some (.int (-1))) (am_set h 64 3 0) o g else Q (some (.int ((h 64 28) - 1))) (am_set (am_set h 64 3 0) 64 28 ((h 64 28) - 1)) o g)) : am_X L xs d 170 0 [some (.ref 64)] [] am_C0 h o g Q T := by
  refine xo_2 rfl rfl ?_
  refine xo_0 rfl ?_
  refine xo_14 rfl cf_64_3 ?_
  refine xo_2 rfl rfl ?_
  refine xo_13 rfl cf_64_28 ?_
  refine xo_10ne rfl (am_sp ?_ ?_ H)
  · intro hc1 H
    refine xo_0 rfl ?_
    refine xo_41 rfl ?_
    exact H
  · intro hc1 H
    refine xo_2 rfl rfl ?_
    refine xo_28 rfl rfl ?_
    refine xo_13 rfl cf_64_28 ?_
    refine xo_0 rfl ?_
    refine xo_7 rfl rfl ?_
    refine xo_14 rfl cf_64_28 ?_
    refine xo_2 rfl rfl ?_
    refine xo_13 rfl cf_64_28 ?_
    refine xo_41 rfl ?_
    exact H
theorem sm_171 {x1 : Int32} {x2 : Int32} {x3 : Int32} {x4 : Int32} (H : (if x1 < 0 then Q (some (.int 0)) (am_set (am_set h 64 3 0) 64 3 1) o g else (if ((h 68 1) - 1) < x1 then Q (some (.int 0)) (am_set (am_set h 64 3 0) 64 3 1) o g else (if x2 < 0 then Q (some (.int 0)) (am_set (am_set h 64 3 0) 64 3 1) o g else (if ((h 68 0) - 1) < x2 then Q (some (.int 0)) (am_set (am_set h 64 3 0) 64 3 1) o g else (if x4 < 0 then Q (some (.int 0)) (am_set (am_set h 64 3 0) 64 3 1) o g else (if 2 < x4 then Q (some (.int 0)) (am_set (am_set h 64 3 0) 64 3 1) o g else (if x3 < 0 then Q (some (.int 0)) (am_set (am_set h 64 3 0) 64 3 2) o g else (if (h 64 28) < x3 then Q (some (.int 0)) (am_set (am_set h 64 3 0) 64 3 2) o g else am_X L xs (d + 1) 172 0 [some (.ref 64), some (.int x1), some (.int x2), some (.int x3), some (.int (-1)), none] [] am_C0 (am_set h 64 3 0) o g (fun w h' o' g' => am_X L xs (d + 2) 171 63 [some (.ref 64), some (.int x1), some (.int x2), some (.int x3), some (.int x4), none] (w.toList ++ []) am_C0 h' o' g' Q T) T))))))))) : am_X L xs (d + 2) 171 0 [some (.ref 64), some (.int x1), some (.int x2), some (.int x3), some (.int x4), none] [] am_C0 h o g Q T := by
  refine xo_2 rfl rfl ?_
  refine xo_0 rfl ?_
  refine xo_14 rfl cf_64_3 ?_
  refine xo_2 rfl rfl ?_
  refine xo_1 rfl rfl ?_
  refine cl_157_64 rfl hd_171 rfl ?_
  refine xo_1 rfl rfl ?_
  refine xo_0 rfl ?_
  refine xo_2 rfl rfl ?_
  refine xo_13r rfl cr_64_4 ?_
  refine xo_0 rfl ?_
  refine xo_17 rfl ca_68 (am_ix.lit rfl) ?_
  refine xo_0 rfl ?_
  refine xo_7 rfl rfl ?_
  refine cl_150 rfl hd_157 rfl ?_
  refine xo_1 rfl rfl ?_
  refine xo_1 rfl rfl ?_
  refine xo_11lt rfl (am_sp ?_ ?_ H)
  · intro hc1 H
    refine xo_0 rfl ?_
    refine xr_42 rfl rfl ?_
    refine xr_42 rfl rfl ?_
    refine xo_10 rfl (by decide) ?_
    refine xo_2 rfl rfl ?_
    refine xo_0 rfl ?_
    refine cl_133_64 rfl hd_171 rfl ?_
    refine xo_2 rfl rfl ?_
    refine xo_1 rfl rfl ?_
    refine xo_14 rfl cf_64_3 ?_
    refine xo_0 rfl ?_
    refine xr_41 rfl ?_
    refine xo_41 rfl ?_
    exact H
  · intro hc1 H
    refine xo_1 rfl rfl ?_
    refine xo_1 rfl rfl ?_
    refine xo_11gt rfl (am_sp ?_ ?_ H)
    · intro hc2 H
      refine xo_0 rfl ?_
      refine xr_42 rfl rfl ?_
      refine xr_42 rfl rfl ?_
      refine xo_10 rfl (by decide) ?_
      refine xo_2 rfl rfl ?_
      refine xo_0 rfl ?_
      refine cl_133_64 rfl hd_171 rfl ?_
      refine xo_2 rfl rfl ?_
      refine xo_1 rfl rfl ?_
      refine xo_14 rfl cf_64_3 ?_
      refine xo_0 rfl ?_
      refine xr_41 rfl ?_
      refine xo_41 rfl ?_
      exact H
    · intro hc2 H
      refine xo_0 rfl ?_
      refine xo_12 rfl ?_
      refine xr_42 rfl rfl ?_
      refine xr_42 rfl rfl ?_
      refine xo_10n rfl (by decide) ?_
      refine xo_2 rfl rfl ?_
      refine xo_1 rfl rfl ?_
      refine cl_152_64 rfl hd_171 rfl ?_
      refine xo_1 rfl rfl ?_
      refine xo_0 rfl ?_
      refine xo_2 rfl rfl ?_
      refine xo_13r rfl cr_64_4 ?_
      refine xo_0 rfl ?_
      refine xo_17 rfl ca_68 (am_ix.lit rfl) ?_
      refine xo_0 rfl ?_
      refine xo_7 rfl rfl ?_
      refine cl_150 rfl hd_152 rfl ?_
      refine xo_1 rfl rfl ?_
      refine xo_1 rfl rfl ?_
      refine xo_11lt rfl (am_sp ?_ ?_ H)
      · intro hc3 H
        refine xo_0 rfl ?_
        refine xr_42 rfl rfl ?_
        refine xr_42 rfl rfl ?_
        refine xo_10 rfl (by decide) ?_
        refine xo_2 rfl rfl ?_
        refine xo_0 rfl ?_
        refine cl_133_64 rfl hd_171 rfl ?_
        refine xo_2 rfl rfl ?_
        refine xo_1 rfl rfl ?_
        refine xo_14 rfl cf_64_3 ?_
        refine xo_0 rfl ?_
        refine xr_41 rfl ?_
        refine xo_41 rfl ?_
        exact H
      · intro hc3 H
        refine xo_1 rfl rfl ?_
        refine xo_1 rfl rfl ?_
        refine xo_11gt rfl (am_sp ?_ ?_ H)
        · intro hc4 H
          refine xo_0 rfl ?_
          refine xr_42 rfl rfl ?_
          refine xr_42 rfl rfl ?_
          refine xo_10 rfl (by decide) ?_
          refine xo_2 rfl rfl ?_
          refine xo_0 rfl ?_
          refine cl_133_64 rfl hd_171 rfl ?_
          refine xo_2 rfl rfl ?_
          refine xo_1 rfl rfl ?_
          refine xo_14 rfl cf_64_3 ?_
          refine xo_0 rfl ?_
          refine xr_41 rfl ?_
          refine xo_41 rfl ?_
          exact H
        · intro hc4 H
          refine xo_0 rfl ?_
          refine xo_12 rfl ?_
          refine xr_42 rfl rfl ?_
          refine xr_42 rfl rfl ?_
          refine xo_10n rfl (by decide) ?_
          refine xo_1 rfl rfl ?_
          refine xo_0 rfl ?_
          refine xo_0 rfl ?_
          refine cl_150 rfl hd_171 rfl ?_
          refine xo_1 rfl rfl ?_
          refine xo_1 rfl rfl ?_
          refine xo_11lt rfl (am_sp ?_ ?_ H)
          · intro hc5 H
            refine xo_0 rfl ?_
            refine xr_42 rfl rfl ?_
            refine xo_10n rfl (by decide) ?_
            refine xo_2 rfl rfl ?_
            refine xo_0 rfl ?_
            refine cl_133_64 rfl hd_171 rfl ?_
            refine xo_2 rfl rfl ?_
            refine xo_1 rfl rfl ?_
            refine xo_14 rfl cf_64_3 ?_
            refine xo_0 rfl ?_
            refine xr_41 rfl ?_
            refine xo_41 rfl ?_
            exact H
          · intro hc5 H
            refine xo_1 rfl rfl ?_
            refine xo_1 rfl rfl ?_
            refine xo_11gt rfl (am_sp ?_ ?_ H)
            · intro hc6 H
              refine xo_0 rfl ?_
              refine xr_42 rfl rfl ?_
              refine xo_10n rfl (by decide) ?_
              refine xo_2 rfl rfl ?_
              refine xo_0 rfl ?_
              refine cl_133_64 rfl hd_171 rfl ?_
              refine xo_2 rfl rfl ?_
              refine xo_1 rfl rfl ?_
              refine xo_14 rfl cf_64_3 ?_
              refine xo_0 rfl ?_
              refine xr_41 rfl ?_
              refine xo_41 rfl ?_
              exact H
            · intro hc6 H
              refine xo_0 rfl ?_
              refine xo_12 rfl ?_
              refine xr_42 rfl rfl ?_
              refine xo_10 rfl (by decide) ?_
              refine xo_1 rfl rfl ?_
              refine xo_0 rfl ?_
              refine xo_2 rfl rfl ?_
              refine xo_13 rfl cf_64_28 ?_
              refine cl_150 rfl hd_171 rfl ?_
              refine xo_1 rfl rfl ?_
              refine xo_1 rfl rfl ?_
              refine xo_11lt rfl (am_sp ?_ ?_ H)
              · intro hc7 H
                refine xo_0 rfl ?_
                refine xr_42 rfl rfl ?_
                refine xo_10n rfl (by decide) ?_
                refine xo_2 rfl rfl ?_
                refine xo_0 rfl ?_
                refine cl_133_64 rfl hd_171 rfl ?_
                refine xo_2 rfl rfl ?_
                refine xo_1 rfl rfl ?_
                refine xo_14 rfl cf_64_3 ?_
                refine xo_0 rfl ?_
                refine xr_41 rfl ?_
                refine xo_41 rfl ?_
                exact H
              · intro hc7 H
                refine xo_1 rfl rfl ?_
                refine xo_1 rfl rfl ?_
                refine xo_11gt rfl (am_sp ?_ ?_ H)
                · intro hc8 H
                  refine xo_0 rfl ?_
                  refine xr_42 rfl rfl ?_
                  refine xo_10n rfl (by decide) ?_
                  refine xo_2 rfl rfl ?_
                  refine xo_0 rfl ?_
                  refine cl_133_64 rfl hd_171 rfl ?_
                  refine xo_2 rfl rfl ?_
                  refine xo_1 rfl rfl ?_
                  refine xo_14 rfl cf_64_3 ?_
                  refine xo_0 rfl ?_
                  refine xr_41 rfl ?_
                  refine xo_41 rfl ?_
                  exact H
                · intro hc8 H
                  refine xo_0 rfl ?_
                  refine xo_12 rfl ?_
                  refine xr_42 rfl rfl ?_
                  refine xo_10 rfl (by decide) ?_
                  refine xo_2 rfl rfl ?_
                  refine xo_1 rfl rfl ?_
                  refine xo_1 rfl rfl ?_
                  refine xo_1 rfl rfl ?_
                  refine xo_0 rfl ?_
                  refine cl_172_64 rfl hd_171 rfl ?_
                  exact H
theorem sm_171_63 {q1 : Option Value} {q2 : Option Value} {q3 : Option Value} {x4 : Int32} {q5 : Option Value} (hq1 : am_nl q1 = true) (hq2 : am_nl q2 = true) (hq3 : am_nl q3 = true) (hq5 : am_nl q5 = true) (H : (if (h 64 36) < (h 64 35) then (if x4 = 2 then Q (some (.int 0)) h o g else Q (some (.int (-1))) h o g) else (if x4 = 2 then Q (some (.int (((h 64 36) - (h 64 35)) + 1))) h o g else (if x4 = 0 then Q (some (.int (h 64 35))) h o g else Q (some (.int (h 64 36))) h o g)))) : am_X L xs d 171 63 [some (.ref 64), q1, q2, q3, some (.int x4), q5] [] am_C0 h o g Q T := by
  refine xo_2 rfl rfl ?_
  refine xo_13 rfl cf_64_35 ?_
  refine xo_2 rfl rfl ?_
  refine xo_13 rfl cf_64_36 ?_
  refine xo_11le rfl (am_sp ?_ ?_ H)
  · intro hc1 H
    refine xo_0 rfl ?_
    refine xo_12 rfl ?_
    refine xo_4 (lv' := [some (.ref 64), q1, q2, q3, some (.int x4), some (.int 1)]) rfl rfl rfl ?_
    refine xo_1 rfl rfl ?_
    refine xo_0 rfl ?_
    refine xo_11ne rfl (am_sp ?_ ?_ H)
    · intro hc2 H
      refine xo_1 rfl rfl ?_
      refine xo_10n rfl (by decide) ?_
      refine xo_0 rfl ?_
      refine xo_12 rfl ?_
      refine xo_41 rfl ?_
      exact H
    · intro hc2 H
      refine xo_1 rfl rfl ?_
      refine xo_10n rfl (by decide) ?_
      refine xo_0 rfl ?_
      refine xo_12 rfl ?_
      refine xo_41 rfl ?_
      exact H
  · intro hc1 H
    refine xo_0 rfl ?_
    refine xo_4 (lv' := [some (.ref 64), q1, q2, q3, some (.int x4), some (.int 0)]) rfl rfl rfl ?_
    refine xo_1 rfl rfl ?_
    refine xo_0 rfl ?_
    refine xo_11ne rfl (am_sp ?_ ?_ H)
    · intro hc3 H
      refine xo_1 rfl rfl ?_
      refine xo_10 rfl (by decide) ?_
      refine xo_2 rfl rfl ?_
      refine xo_13 rfl cf_64_36 ?_
      refine xo_2 rfl rfl ?_
      refine xo_13 rfl cf_64_35 ?_
      refine xo_7 rfl rfl ?_
      refine xo_0 rfl ?_
      refine xo_7 rfl rfl ?_
      refine xo_12 rfl ?_
      refine xo_41 rfl ?_
      exact H
    · intro hc3 H
      refine xo_1 rfl rfl ?_
      refine xo_10 rfl (by decide) ?_
      refine xo_1 rfl rfl ?_
      refine xo_10ne rfl (am_sp ?_ ?_ H)
      · intro hc4 H
        refine xo_2 rfl rfl ?_
        refine xo_13 rfl cf_64_35 ?_
        refine xo_12 rfl ?_
        refine xo_41 rfl ?_
        exact H
      · intro hc4 H
        refine xo_2 rfl rfl ?_
        refine xo_13 rfl cf_64_36 ?_
        refine xo_41 rfl ?_
        exact H
theorem sm_172 {x1 : Int32} {x2 : Int32} {x3 : Int32} {x4 : Int32} (H : (am_ix x2 10 ∧ am_X L xs (d + 1) 172 8 [some (.ref 64), some (.int x1), some (.int x2), some (.int x3), some (.int x4), some (.int 0)] [] am_C0 (am_set (am_set h 64 35 (h 69 x2.toNatClampNeg)) 64 36 (h 70 x2.toNatClampNeg)) o g Q T)) : am_X L xs (d + 1) 172 0 [some (.ref 64), some (.int x1), some (.int x2), some (.int x3), some (.int x4), none] [] am_C0 h o g Q T := by
  refine xo_2 rfl rfl ?_
  refine xo_1 rfl rfl ?_
  refine cl_154_64 rfl hd_172 rfl ?_
  refine xo_2 rfl rfl ?_
  refine xo_2 rfl rfl ?_
  refine xo_13r rfl cr_64_5 ?_
  refine xo_1 rfl rfl ?_
  obtain ⟨hg1, H⟩ := H
  refine xo_17 rfl ca_69 hg1 ?_
  refine xo_14 rfl cf_64_35 ?_
  refine xo_2 rfl rfl ?_
  refine xo_2 rfl rfl ?_
  refine xo_13r rfl cr_64_6 ?_
  refine xo_1 rfl rfl ?_
  refine xo_17 rfl ca_70 hg1 ?_
  refine xo_14 rfl cf_64_36 ?_
  refine xr_44 rfl ?_
  refine xo_0 rfl ?_
  refine xo_4 (lv' := [some (.ref 64), some (.int x1), some (.int x2), some (.int x3), some (.int x4), some (.int 0)]) rfl rfl rfl ?_
  exact H
theorem sm_172_8 {x1 : Int32} {x2 : Int32} {x3 : Int32} {x4 : Int32} {x5 : Int32} (H : (if x5 < x3 then (am_ix x5 80 ∧ (if (h 84 x5.toNatClampNeg) = x2 then (if x5 = x4 then am_X L xs (d + 1) 172 8 [some (.ref 64), some (.int x1), some (.int x2), some (.int x3), some (.int x4), some (.int (x5 + 1))] [] am_C0 h o g Q T else (if (h 83 x5.toNatClampNeg) = (-1) then (if (h 82 x5.toNatClampNeg) = x1 then (if (h 87 x5.toNatClampNeg) = 0 then am_X L xs (d + 1) 172 8 [some (.ref 64), some (.int x1), some (.int x2), some (.int x3), some (.int x4), some (.int (x5 + 1))] [] am_C0 (am_set h 64 36 (if ((h 85 x5.toNatClampNeg) - 1) < (h 64 36) then ((h 85 x5.toNatClampNeg) - 1) else (h 64 36))) o g Q T else am_X L xs (d + 1) 172 8 [some (.ref 64), some (.int x1), some (.int x2), some (.int x3), some (.int x4), some (.int (x5 + 1))] [] am_C0 (am_set h 64 35 (if (h 64 35) < (h 85 x5.toNatClampNeg) then (h 85 x5.toNatClampNeg) else (h 64 35))) o g Q T) else am_X L xs (d + 1) 172 8 [some (.ref 64), some (.int x1), some (.int x2), some (.int x3), some (.int x4), some (.int (x5 + 1))] [] am_C0 h o g Q T) else (if (h 83 x5.toNatClampNeg) = x1 then (if (h 87 x5.toNatClampNeg) = 0 then am_X L xs (d + 1) 172 8 [some (.ref 64), some (.int x1), some (.int x2), some (.int x3), some (.int x4), some (.int (x5 + 1))] [] am_C0 (am_set h 64 36 (if ((h 85 x5.toNatClampNeg) - 1) < (h 64 36) then ((h 85 x5.toNatClampNeg) - 1) else (h 64 36))) o g Q T else am_X L xs (d + 1) 172 8 [some (.ref 64), some (.int x1), some (.int x2), some (.int x3), some (.int x4), some (.int (x5 + 1))] [] am_C0 (am_set h 64 35 (if (h 64 35) < (h 85 x5.toNatClampNeg) then (h 85 x5.toNatClampNeg) else (h 64 35))) o g Q T) else am_X L xs (d + 1) 172 8 [some (.ref 64), some (.int x1), some (.int x2), some (.int x3), some (.int x4), some (.int (x5 + 1))] [] am_C0 h o g Q T))) else am_X L xs (d + 1) 172 8 [some (.ref 64), some (.int x1), some (.int x2), some (.int x3), some (.int x4), some (.int (x5 + 1))] [] am_C0 h o g Q T)) else Q none h o g)) : am_X L xs (d + 1) 172 8 [some (.ref 64), some (.int x1), some (.int x2), some (.int x3), some (.int x4), some (.int x5)] [] am_C0 h o g Q T := by
  refine xo_1 rfl rfl ?_
  refine xo_1 rfl rfl ?_
  refine xo_11ge rfl (am_sp ?_ ?_ H)
  · intro hc1 H
    refine xo_2 rfl rfl ?_
    refine xo_13r rfl cr_64_31 ?_
    refine xo_1 rfl rfl ?_
    obtain ⟨hg2, H⟩ := H
    refine xo_17 rfl ca_84 hg2 ?_
    refine xo_1 rfl rfl ?_
    refine xo_11ne rfl (am_sp ?_ ?_ H)
    · intro hc3 H
      refine xo_1 rfl rfl ?_
      refine xo_1 rfl rfl ?_
      refine xo_11eq rfl (am_sp ?_ ?_ H)
      · intro hc4 H
        refine xo_9 (z := (x5 + 1)) (lv' := [some (.ref 64), some (.int x1), some (.int x2), some (.int x3), some (.int x4), some (.int (x5 + 1))]) rfl rfl rfl rfl rfl ?_
        refine xo_12 rfl ?_
        exact H
      · intro hc4 H
        refine xo_2 rfl rfl ?_
        refine xo_13r rfl cr_64_30 ?_
        refine xo_1 rfl rfl ?_
        refine xo_17 rfl ca_83 hg2 ?_
        refine xo_0 rfl ?_
        refine xo_11ne rfl (am_sp ?_ ?_ H)
        · intro hc5 H
          refine xo_2 rfl rfl ?_
          refine xo_13r rfl cr_64_29 ?_
          refine xo_1 rfl rfl ?_
          refine xo_17 rfl ca_82 hg2 ?_
          refine xo_12 rfl ?_
          refine xo_1 rfl rfl ?_
          refine xo_11ne rfl (am_sp ?_ ?_ H)
          · intro hc6 H
            refine xo_2 rfl rfl ?_
            refine xo_2 rfl rfl ?_
            refine xo_13r rfl cr_64_32 ?_
            refine xo_1 rfl rfl ?_
            refine xo_17 rfl ca_85 hg2 ?_
            refine xo_2 rfl rfl ?_
            refine xo_13r rfl cr_64_34 ?_
            refine xo_1 rfl rfl ?_
            refine xo_18b rfl ca_87 hg2 ?_
            refine cl_155_64 rfl hd_172 rfl ?_
            refine xo_1 rfl rfl ?_
            refine xo_10eq rfl (am_sp ?_ ?_ H)
            · intro hc7 H
              refine xo_2 rfl rfl ?_
              refine xo_2 rfl rfl ?_
              refine xo_13 rfl cf_64_36 ?_
              refine xo_1 rfl rfl ?_
              refine xo_0 rfl ?_
              refine xo_7 rfl rfl ?_
              refine xo_47n rfl (Nat.le_of_ble_eq_true rfl) ?_
              refine xo_14 rfl cf_64_36 ?_
              refine xr_44 rfl ?_
              refine xo_9 (z := (x5 + 1)) (lv' := [some (.ref 64), some (.int x1), some (.int x2), some (.int x3), some (.int x4), some (.int (x5 + 1))]) rfl rfl rfl rfl rfl ?_
              refine xo_12 rfl ?_
              exact H
            · intro hc7 H
              refine xo_2 rfl rfl ?_
              refine xo_2 rfl rfl ?_
              refine xo_13 rfl cf_64_35 ?_
              refine xo_1 rfl rfl ?_
              refine xo_47x rfl (Nat.le_of_ble_eq_true rfl) ?_
              refine xo_14 rfl cf_64_35 ?_
              refine xo_12 rfl ?_
              refine xr_44 rfl ?_
              refine xo_9 (z := (x5 + 1)) (lv' := [some (.ref 64), some (.int x1), some (.int x2), some (.int x3), some (.int x4), some (.int (x5 + 1))]) rfl rfl rfl rfl rfl ?_
              refine xo_12 rfl ?_
              exact H
          · intro hc6 H
            refine xo_9 (z := (x5 + 1)) (lv' := [some (.ref 64), some (.int x1), some (.int x2), some (.int x3), some (.int x4), some (.int (x5 + 1))]) rfl rfl rfl rfl rfl ?_
            refine xo_12 rfl ?_
            exact H
        · intro hc5 H
          refine xo_2 rfl rfl ?_
          refine xo_13r rfl cr_64_30 ?_
          refine xo_1 rfl rfl ?_
          refine xo_17 rfl ca_83 hg2 ?_
          refine xo_1 rfl rfl ?_
          refine xo_11ne rfl (am_sp ?_ ?_ H)
          · intro hc8 H
            refine xo_2 rfl rfl ?_
            refine xo_2 rfl rfl ?_
            refine xo_13r rfl cr_64_32 ?_
            refine xo_1 rfl rfl ?_
            refine xo_17 rfl ca_85 hg2 ?_
            refine xo_2 rfl rfl ?_
            refine xo_13r rfl cr_64_34 ?_
            refine xo_1 rfl rfl ?_
            refine xo_18b rfl ca_87 hg2 ?_
            refine cl_155_64 rfl hd_172 rfl ?_
            refine xo_1 rfl rfl ?_
            refine xo_10eq rfl (am_sp ?_ ?_ H)
            · intro hc9 H
              refine xo_2 rfl rfl ?_
              refine xo_2 rfl rfl ?_
              refine xo_13 rfl cf_64_36 ?_
              refine xo_1 rfl rfl ?_
              refine xo_0 rfl ?_
              refine xo_7 rfl rfl ?_
              refine xo_47n rfl (Nat.le_of_ble_eq_true rfl) ?_
              refine xo_14 rfl cf_64_36 ?_
              refine xr_44 rfl ?_
              refine xo_9 (z := (x5 + 1)) (lv' := [some (.ref 64), some (.int x1), some (.int x2), some (.int x3), some (.int x4), some (.int (x5 + 1))]) rfl rfl rfl rfl rfl ?_
              refine xo_12 rfl ?_
              exact H
            · intro hc9 H
              refine xo_2 rfl rfl ?_
              refine xo_2 rfl rfl ?_
              refine xo_13 rfl cf_64_35 ?_
              refine xo_1 rfl rfl ?_
              refine xo_47x rfl (Nat.le_of_ble_eq_true rfl) ?_
              refine xo_14 rfl cf_64_35 ?_
              refine xo_12 rfl ?_
              refine xr_44 rfl ?_
              refine xo_9 (z := (x5 + 1)) (lv' := [some (.ref 64), some (.int x1), some (.int x2), some (.int x3), some (.int x4), some (.int (x5 + 1))]) rfl rfl rfl rfl rfl ?_
              refine xo_12 rfl ?_
              exact H
          · intro hc8 H
            refine xo_9 (z := (x5 + 1)) (lv' := [some (.ref 64), some (.int x1), some (.int x2), some (.int x3), some (.int x4), some (.int (x5 + 1))]) rfl rfl rfl rfl rfl ?_
            refine xo_12 rfl ?_
            exact H
    · intro hc3 H
      refine xo_9 (z := (x5 + 1)) (lv' := [some (.ref 64), some (.int x1), some (.int x2), some (.int x3), some (.int x4), some (.int (x5 + 1))]) rfl rfl rfl rfl rfl ?_
      refine xo_12 rfl ?_
      exact H
  · intro hc1 H
    refine xo_44 rfl ?_
    exact H
theorem sm_173 (H : am_X L xs d 173 9 [some (.ref 64), some (.int (-1)), some (.int 0)] [] am_C0 (am_set h 64 3 0) o g Q T) : am_X L xs d 173 0 [some (.ref 64), none, none] [] am_C0 h o g Q T := by
  refine xo_2 rfl rfl ?_
  refine xo_0 rfl ?_
  refine xo_14 rfl cf_64_3 ?_
  refine xo_0 rfl ?_
  refine xo_4 (lv' := [some (.ref 64), some (.int (-1)), none]) rfl rfl rfl ?_
  refine xo_0 rfl ?_
  refine xo_4 (lv' := [some (.ref 64), some (.int (-1)), some (.int 0)]) rfl rfl rfl ?_
  exact H
theorem sm_173_9 {x1 : Int32} {x2 : Int32} (H : (if x2 < (1 <<< ((h 68 1) &&& 31)) then (if x1 = (-1) then am_X L xs d 175 0 [some (.ref 64), some (.int x2), none, none] [] am_C0 h o g (fun w h' o' g' => am_X L xs (d + 1) 173 42 [some (.ref 64), some (.int x1), some (.int x2)] (w.toList ++ []) am_C0 h' o' g' Q T) T else am_X L xs d 174 0 [some (.int x2), none, none] [] am_C0 h o g (fun w h' o' g' => am_X L xs (d + 1) 173 30 [some (.ref 64), some (.int x1), some (.int x2)] (w.toList ++ []) am_C0 h' o' g' Q T) T) else Q (some (.int x1)) h o g)) : am_X L xs (d + 1) 173 9 [some (.ref 64), some (.int x1), some (.int x2)] [] am_C0 h o g Q T := by
  refine xo_1 rfl rfl ?_
  refine xo_0 rfl ?_
  refine xo_2 rfl rfl ?_
  refine xo_13r rfl cr_64_4 ?_
  refine xo_0 rfl ?_
  refine xo_17 rfl ca_68 (am_ix.lit rfl) ?_
  refine xo_7 rfl rfl ?_
  refine xo_11ge rfl (am_sp ?_ ?_ H)
  · intro hc1 H
    refine xo_1 rfl rfl ?_
    refine xo_0 rfl ?_
    refine xo_11eq rfl (am_sp ?_ ?_ H)
    · intro hc2 H
      refine xo_2 rfl rfl ?_
      refine xo_1 rfl rfl ?_
      refine cl_175_64 rfl hd_173 rfl ?_
      exact H
    · intro hc2 H
      refine xo_1 rfl rfl ?_
      refine cl_174 rfl hd_173 rfl ?_
      exact H
  · intro hc1 H
    refine xo_1 rfl rfl ?_
    refine xo_41 rfl ?_
    exact H
theorem sm_173_42 {x1 : Int32} {x2 : Int32} {z0 : Int32} (H : (if z0 = 0 then am_X L xs d 173 9 [some (.ref 64), some (.int x1), some (.int (x2 + 1))] [] am_C0 h o g Q T else am_X L xs d 173 9 [some (.ref 64), some (.int x2), some (.int (x2 + 1))] [] am_C0 h o g Q T)) : am_X L xs d 173 42 [some (.ref 64), some (.int x1), some (.int x2)] [.int z0] am_C0 h o g Q T := by
  refine xo_10eq rfl (am_sp ?_ ?_ H)
  · intro hc1 H
    refine xo_9 (z := (x2 + 1)) (lv' := [some (.ref 64), some (.int x1), some (.int (x2 + 1))]) rfl rfl rfl rfl rfl ?_
    refine xo_12 rfl ?_
    exact H
  · intro hc1 H
    refine xo_1 rfl rfl ?_
    refine xo_4 (lv' := [some (.ref 64), some (.int x2), some (.int x2)]) rfl rfl rfl ?_
    refine xo_9 (z := (x2 + 1)) (lv' := [some (.ref 64), some (.int x2), some (.int (x2 + 1))]) rfl rfl rfl rfl rfl ?_
    refine xo_12 rfl ?_
    exact H
theorem sm_173_30 {x1 : Int32} {x2 : Int32} {z0 : Int32} (H : am_X L xs d 174 0 [some (.int x1), none, none] [] am_C0 h o g (fun w h' o' g' => am_X L xs (d + 1) 173 34 [some (.ref 64), some (.int x1), some (.int x2)] (w.toList ++ [.int z0]) am_C0 h' o' g' Q T) T) : am_X L xs (d + 1) 173 30 [some (.ref 64), some (.int x1), some (.int x2)] [.int z0] am_C0 h o g Q T := by
  refine xo_1 rfl rfl ?_
  refine cl_174 rfl hd_173 rfl ?_
  exact H
theorem sm_173_34 {x1 : Int32} {x2 : Int32} {z0 : Int32} {z1 : Int32} (H : (if z0 < z1 then am_X L xs d 175 0 [some (.ref 64), some (.int x2), none, none] [] am_C0 h o g (fun w h' o' g' => am_X L xs (d + 1) 173 42 [some (.ref 64), some (.int x1), some (.int x2)] (w.toList ++ []) am_C0 h' o' g' Q T) T else am_X L xs (d + 1) 173 9 [some (.ref 64), some (.int x1), some (.int (x2 + 1))] [] am_C0 h o g Q T)) : am_X L xs (d + 1) 173 34 [some (.ref 64), some (.int x1), some (.int x2)] [.int z1, .int z0] am_C0 h o g Q T := by
  refine xo_11ge rfl (am_sp ?_ ?_ H)
  · intro hc1 H
    refine xo_2 rfl rfl ?_
    refine xo_1 rfl rfl ?_
    refine cl_175_64 rfl hd_173 rfl ?_
    exact H
  · intro hc1 H
    refine xo_9 (z := (x2 + 1)) (lv' := [some (.ref 64), some (.int x1), some (.int (x2 + 1))]) rfl rfl rfl rfl rfl ?_
    refine xo_12 rfl ?_
    exact H
theorem sm_174 {x0 : Int32} (H : am_X L xs d 174 4 [some (.int x0), some (.int 0), some (.int x0)] [] am_C0 h o g Q T) : am_X L xs d 174 0 [some (.int x0), none, none] [] am_C0 h o g Q T := by
  refine xo_0 rfl ?_
  refine xo_4 (lv' := [some (.int x0), some (.int 0), none]) rfl rfl rfl ?_
  refine xo_1 rfl rfl ?_
  refine xo_4 (lv' := [some (.int x0), some (.int 0), some (.int x0)]) rfl rfl rfl ?_
  exact H
theorem sm_174_4 {q0 : Option Value} {x1 : Int32} {x2 : Int32} (hq0 : am_nl q0 = true) (H : (if x2 = 0 then Q (some (.int x1)) h o g else am_X L xs d 174 4 [q0, some (.int (x1 + 1)), some (.int (x2 &&& (x2 - 1)))] [] am_C0 h o g Q T)) : am_X L xs d 174 4 [q0, some (.int x1), some (.int x2)] [] am_C0 h o g Q T := by
  refine xo_1 rfl rfl ?_
  refine xo_10eq rfl (am_sp ?_ ?_ H)
  · intro hc1 H
    refine xo_1 rfl rfl ?_
    refine xo_41 rfl ?_
    exact H
  · intro hc1 H
    refine xo_9 (z := (x1 + 1)) (lv' := [q0, some (.int (x1 + 1)), some (.int x2)]) rfl rfl rfl hq0 rfl ?_
    refine xo_1 rfl rfl ?_
    refine xo_1 rfl rfl ?_
    refine xo_0 rfl ?_
    refine xo_7 rfl rfl ?_
    refine xo_7 rfl rfl ?_
    refine xo_4 (lv' := [q0, some (.int (x1 + 1)), some (.int (x2 &&& (x2 - 1)))]) rfl rfl rfl ?_
    refine xo_12 rfl ?_
    exact H
theorem sm_175 {x1 : Int32} (H : am_X L xs d 175 2 [some (.ref 64), some (.int x1), some (.int 0), none] [] am_C0 h o g Q T) : am_X L xs d 175 0 [some (.ref 64), some (.int x1), none, none] [] am_C0 h o g Q T := by
  refine xo_0 rfl ?_
  refine xo_4 (lv' := [some (.ref 64), some (.int x1), some (.int 0), none]) rfl rfl rfl ?_
  exact H
theorem sm_175_2 {x1 : Int32} {x2 : Int32} {q3 : Option Value} (hq3 : am_nl q3 = true) (H : (if x2 < (h 68 0) then (am_ix x2 10 ∧ am_X L xs (d + 1) 175 19 [some (.ref 64), some (.int x1), some (.int x2), some (.int 0)] [] am_C0 (am_set (am_set h 64 35 (h 69 x2.toNatClampNeg)) 64 36 (h 70 x2.toNatClampNeg)) o g Q T) else Q (some (.int 1)) h o g)) : am_X L xs (d + 1) 175 2 [some (.ref 64), some (.int x1), some (.int x2), q3] [] am_C0 h o g Q T := by
  refine xo_1 rfl rfl ?_
  refine xo_2 rfl rfl ?_
  refine xo_13r rfl cr_64_4 ?_
  refine xo_0 rfl ?_
  refine xo_17 rfl ca_68 (am_ix.lit rfl) ?_
  refine xo_11ge rfl (am_sp ?_ ?_ H)
  · intro hc1 H
    refine xo_2 rfl rfl ?_
    refine xo_1 rfl rfl ?_
    refine cl_154_64 rfl hd_175 rfl ?_
    refine xo_2 rfl rfl ?_
    refine xo_2 rfl rfl ?_
    refine xo_13r rfl cr_64_5 ?_
    refine xo_1 rfl rfl ?_
    obtain ⟨hg2, H⟩ := H
    refine xo_17 rfl ca_69 hg2 ?_
    refine xo_14 rfl cf_64_35 ?_
    refine xo_2 rfl rfl ?_
    refine xo_2 rfl rfl ?_
    refine xo_13r rfl cr_64_6 ?_
    refine xo_1 rfl rfl ?_
    refine xo_17 rfl ca_70 hg2 ?_
    refine xo_14 rfl cf_64_36 ?_
    refine xr_44 rfl ?_
    refine xo_0 rfl ?_
    refine xo_4 (lv' := [some (.ref 64), some (.int x1), some (.int x2), some (.int 0)]) rfl rfl rfl ?_
    exact H
  · intro hc1 H
    refine xo_0 rfl ?_
    refine xo_42 rfl rfl ?_
    exact H
theorem sm_175_19 {x1 : Int32} {x2 : Int32} {x3 : Int32} (H : (if x3 < (h 64 28) then (am_ix x3 80 ∧ (if (h 84 x3.toNatClampNeg) = x2 then (if (h 83 x3.toNatClampNeg) = (-1) then (if (h 87 x3.toNatClampNeg) = 0 then am_X L xs (d + 1) 175 19 [some (.ref 64), some (.int x1), some (.int x2), some (.int (x3 + 1))] [] am_C0 (am_set h 64 36 (if ((h 85 x3.toNatClampNeg) - 1) < (h 64 36) then ((h 85 x3.toNatClampNeg) - 1) else (h 64 36))) o g Q T else am_X L xs (d + 1) 175 19 [some (.ref 64), some (.int x1), some (.int x2), some (.int (x3 + 1))] [] am_C0 (am_set h 64 35 (if (h 64 35) < (h 85 x3.toNatClampNeg) then (h 85 x3.toNatClampNeg) else (h 64 35))) o g Q T) else (if ((x1 >>> ((h 82 x3.toNatClampNeg) &&& 31)) &&& 1) = 0 then (if (h 87 x3.toNatClampNeg) = 0 then am_X L xs (d + 1) 175 19 [some (.ref 64), some (.int x1), some (.int x2), some (.int (x3 + 1))] [] am_C0 (am_set h 64 36 (if ((h 85 x3.toNatClampNeg) - 1) < (h 64 36) then ((h 85 x3.toNatClampNeg) - 1) else (h 64 36))) o g Q T else am_X L xs (d + 1) 175 19 [some (.ref 64), some (.int x1), some (.int x2), some (.int (x3 + 1))] [] am_C0 (am_set h 64 35 (if (h 64 35) < (h 85 x3.toNatClampNeg) then (h 85 x3.toNatClampNeg) else (h 64 35))) o g Q T) else am_X L xs (d + 1) 175 19 [some (.ref 64), some (.int x1), some (.int x2), some (.int (x3 + 1))] [] am_C0 h o g Q T)) else am_X L xs (d + 1) 175 19 [some (.ref 64), some (.int x1), some (.int x2), some (.int (x3 + 1))] [] am_C0 h o g Q T)) else (if (h 64 36) < (h 64 35) then Q (some (.int 0)) h o g else am_X L xs (d + 1) 175 2 [some (.ref 64), some (.int x1), some (.int (x2 + 1)), some (.int x3)] [] am_C0 h o g Q T))) : am_X L xs (d + 1) 175 19 [some (.ref 64), some (.int x1), some (.int x2), some (.int x3)] [] am_C0 h o g Q T := by
  refine xo_1 rfl rfl ?_
  refine xo_2 rfl rfl ?_
  refine xo_13 rfl cf_64_28 ?_
  refine xo_11ge rfl (am_sp ?_ ?_ H)
  · intro hc1 H
    refine xo_2 rfl rfl ?_
    refine xo_13r rfl cr_64_31 ?_
    refine xo_1 rfl rfl ?_
    obtain ⟨hg2, H⟩ := H
    refine xo_17 rfl ca_84 hg2 ?_
    refine xo_1 rfl rfl ?_
    refine xo_11ne rfl (am_sp ?_ ?_ H)
    · intro hc3 H
      refine xo_2 rfl rfl ?_
      refine xo_13r rfl cr_64_30 ?_
      refine xo_1 rfl rfl ?_
      refine xo_17 rfl ca_83 hg2 ?_
      refine xo_0 rfl ?_
      refine xo_11eq rfl (am_sp ?_ ?_ H)
      · intro hc4 H
        refine xo_2 rfl rfl ?_
        refine xo_2 rfl rfl ?_
        refine xo_13r rfl cr_64_32 ?_
        refine xo_1 rfl rfl ?_
        refine xo_17 rfl ca_85 hg2 ?_
        refine xo_2 rfl rfl ?_
        refine xo_13r rfl cr_64_34 ?_
        refine xo_1 rfl rfl ?_
        refine xo_18b rfl ca_87 hg2 ?_
        refine cl_155_64 rfl hd_175 rfl ?_
        refine xo_1 rfl rfl ?_
        refine xo_10eq rfl (am_sp ?_ ?_ H)
        · intro hc5 H
          refine xo_2 rfl rfl ?_
          refine xo_2 rfl rfl ?_
          refine xo_13 rfl cf_64_36 ?_
          refine xo_1 rfl rfl ?_
          refine xo_0 rfl ?_
          refine xo_7 rfl rfl ?_
          refine xo_47n rfl (Nat.le_of_ble_eq_true rfl) ?_
          refine xo_14 rfl cf_64_36 ?_
          refine xr_44 rfl ?_
          refine xo_9 (z := (x3 + 1)) (lv' := [some (.ref 64), some (.int x1), some (.int x2), some (.int (x3 + 1))]) rfl rfl rfl rfl rfl ?_
          refine xo_12 rfl ?_
          exact H
        · intro hc5 H
          refine xo_2 rfl rfl ?_
          refine xo_2 rfl rfl ?_
          refine xo_13 rfl cf_64_35 ?_
          refine xo_1 rfl rfl ?_
          refine xo_47x rfl (Nat.le_of_ble_eq_true rfl) ?_
          refine xo_14 rfl cf_64_35 ?_
          refine xo_12 rfl ?_
          refine xr_44 rfl ?_
          refine xo_9 (z := (x3 + 1)) (lv' := [some (.ref 64), some (.int x1), some (.int x2), some (.int (x3 + 1))]) rfl rfl rfl rfl rfl ?_
          refine xo_12 rfl ?_
          exact H
      · intro hc4 H
        refine xo_1 rfl rfl ?_
        refine xo_2 rfl rfl ?_
        refine xo_13r rfl cr_64_29 ?_
        refine xo_1 rfl rfl ?_
        refine xo_17 rfl ca_82 hg2 ?_
        refine xo_7 rfl rfl ?_
        refine xo_0 rfl ?_
        refine xo_7 rfl rfl ?_
        refine xo_10ne rfl (am_sp ?_ ?_ H)
        · intro hc6 H
          refine xo_2 rfl rfl ?_
          refine xo_2 rfl rfl ?_
          refine xo_13r rfl cr_64_32 ?_
          refine xo_1 rfl rfl ?_
          refine xo_17 rfl ca_85 hg2 ?_
          refine xo_2 rfl rfl ?_
          refine xo_13r rfl cr_64_34 ?_
          refine xo_1 rfl rfl ?_
          refine xo_18b rfl ca_87 hg2 ?_
          refine cl_155_64 rfl hd_175 rfl ?_
          refine xo_1 rfl rfl ?_
          refine xo_10eq rfl (am_sp ?_ ?_ H)
          · intro hc7 H
            refine xo_2 rfl rfl ?_
            refine xo_2 rfl rfl ?_
            refine xo_13 rfl cf_64_36 ?_
            refine xo_1 rfl rfl ?_
            refine xo_0 rfl ?_
            refine xo_7 rfl rfl ?_
            refine xo_47n rfl (Nat.le_of_ble_eq_true rfl) ?_
            refine xo_14 rfl cf_64_36 ?_
            refine xr_44 rfl ?_
            refine xo_9 (z := (x3 + 1)) (lv' := [some (.ref 64), some (.int x1), some (.int x2), some (.int (x3 + 1))]) rfl rfl rfl rfl rfl ?_
            refine xo_12 rfl ?_
            exact H
          · intro hc7 H
            refine xo_2 rfl rfl ?_
            refine xo_2 rfl rfl ?_
            refine xo_13 rfl cf_64_35 ?_
            refine xo_1 rfl rfl ?_
            refine xo_47x rfl (Nat.le_of_ble_eq_true rfl) ?_
            refine xo_14 rfl cf_64_35 ?_
            refine xo_12 rfl ?_
            refine xr_44 rfl ?_
            refine xo_9 (z := (x3 + 1)) (lv' := [some (.ref 64), some (.int x1), some (.int x2), some (.int (x3 + 1))]) rfl rfl rfl rfl rfl ?_
            refine xo_12 rfl ?_
            exact H
        · intro hc6 H
          refine xo_9 (z := (x3 + 1)) (lv' := [some (.ref 64), some (.int x1), some (.int x2), some (.int (x3 + 1))]) rfl rfl rfl rfl rfl ?_
          refine xo_12 rfl ?_
          exact H
    · intro hc3 H
      refine xo_9 (z := (x3 + 1)) (lv' := [some (.ref 64), some (.int x1), some (.int x2), some (.int (x3 + 1))]) rfl rfl rfl rfl rfl ?_
      refine xo_12 rfl ?_
      exact H
  · intro hc1 H
    refine xo_2 rfl rfl ?_
    refine xo_13 rfl cf_64_35 ?_
    refine xo_2 rfl rfl ?_
    refine xo_13 rfl cf_64_36 ?_
    refine xo_11le rfl (am_sp ?_ ?_ H)
    · intro hc8 H
      refine xo_0 rfl ?_
      refine xo_42 rfl rfl ?_
      exact H
    · intro hc8 H
      refine xo_9 (z := (x2 + 1)) (lv' := [some (.ref 64), some (.int x1), some (.int (x2 + 1)), some (.int x3)]) rfl rfl rfl rfl rfl ?_
      refine xo_12 rfl ?_
      exact H
theorem sm_176 {x1 : Int32} {x2 : Int32} {x3 : Int32} {x4 : Int32} {x5 : Int32} {x6 : Int32} (H : (if x1 < 0 then Q (some (.int 0)) (am_set (am_set h 64 3 0) 64 3 1) o g else (if ((h 68 1) - 1) < x1 then Q (some (.int 0)) (am_set (am_set h 64 3 0) 64 3 1) o g else (if x2 < 0 then Q (some (.int 0)) (am_set (am_set h 64 3 0) 64 3 1) o g else (if ((h 68 0) - 1) < x2 then Q (some (.int 0)) (am_set (am_set h 64 3 0) 64 3 1) o g else (if x3 < 0 then Q (some (.int 0)) (am_set (am_set h 64 3 0) 64 3 1) o g else (if ((h 68 2) - 1) < x3 then Q (some (.int 0)) (am_set (am_set h 64 3 0) 64 3 1) o g else (if x4 < 0 then Q (some (.int 0)) (am_set (am_set h 64 3 0) 64 3 1) o g else (if 99 < x4 then Q (some (.int 0)) (am_set (am_set h 64 3 0) 64 3 1) o g else (if x5 < 0 then Q (some (.int 0)) (am_set (am_set h 64 3 0) 64 3 1) o g else (if 9999 < x5 then Q (some (.int 0)) (am_set (am_set h 64 3 0) 64 3 1) o g else (if x6 < 0 then Q (some (.int 0)) (am_set (am_set h 64 3 0) 64 3 2) o g else (if (h 64 28) < x6 then Q (some (.int 0)) (am_set (am_set h 64 3 0) 64 3 2) o g else am_X L xs (d + 1) 172 0 [some (.ref 64), some (.int x1), some (.int x2), some (.int x6), some (.int (-1)), none] [] am_C0 (am_set h 64 3 0) o g (fun w h' o' g' => am_X L xs (d + 2) 176 75 [some (.ref 64), some (.int x1), some (.int x2), some (.int x3), some (.int x4), some (.int x5), some (.int x6)] (w.toList ++ []) am_C0 h' o' g' Q T) T))))))))))))) : am_X L xs (d + 2) 176 0 [some (.ref 64), some (.int x1), some (.int x2), some (.int x3), some (.int x4), some (.int x5), some (.int x6)] [] am_C0 h o g Q T := by
  refine xo_2 rfl rfl ?_
  refine xo_0 rfl ?_
  refine xo_14 rfl cf_64_3 ?_
  refine xo_2 rfl rfl ?_
  refine xo_1 rfl rfl ?_
  refine cl_157_64 rfl hd_176 rfl ?_
  refine xo_1 rfl rfl ?_
  refine xo_0 rfl ?_
  refine xo_2 rfl rfl ?_
  refine xo_13r rfl cr_64_4 ?_
  refine xo_0 rfl ?_
  refine xo_17 rfl ca_68 (am_ix.lit rfl) ?_
  refine xo_0 rfl ?_
  refine xo_7 rfl rfl ?_
  refine cl_150 rfl hd_157 rfl ?_
  refine xo_1 rfl rfl ?_
  refine xo_1 rfl rfl ?_
  refine xo_11lt rfl (am_sp ?_ ?_ H)
  · intro hc1 H
    refine xo_0 rfl ?_
    refine xr_42 rfl rfl ?_
    refine xr_42 rfl rfl ?_
    refine xo_10 rfl (by decide) ?_
    refine xo_2 rfl rfl ?_
    refine xo_0 rfl ?_
    refine xo_14 rfl cf_64_3 ?_
    refine xo_0 rfl ?_
    refine xo_42 rfl rfl ?_
    exact H
  · intro hc1 H
    refine xo_1 rfl rfl ?_
    refine xo_1 rfl rfl ?_
    refine xo_11gt rfl (am_sp ?_ ?_ H)
    · intro hc2 H
      refine xo_0 rfl ?_
      refine xr_42 rfl rfl ?_
      refine xr_42 rfl rfl ?_
      refine xo_10 rfl (by decide) ?_
      refine xo_2 rfl rfl ?_
      refine xo_0 rfl ?_
      refine xo_14 rfl cf_64_3 ?_
      refine xo_0 rfl ?_
      refine xo_42 rfl rfl ?_
      exact H
    · intro hc2 H
      refine xo_0 rfl ?_
      refine xo_12 rfl ?_
      refine xr_42 rfl rfl ?_
      refine xr_42 rfl rfl ?_
      refine xo_10n rfl (by decide) ?_
      refine xo_2 rfl rfl ?_
      refine xo_1 rfl rfl ?_
      refine cl_152_64 rfl hd_176 rfl ?_
      refine xo_1 rfl rfl ?_
      refine xo_0 rfl ?_
      refine xo_2 rfl rfl ?_
      refine xo_13r rfl cr_64_4 ?_
      refine xo_0 rfl ?_
      refine xo_17 rfl ca_68 (am_ix.lit rfl) ?_
      refine xo_0 rfl ?_
      refine xo_7 rfl rfl ?_
      refine cl_150 rfl hd_152 rfl ?_
      refine xo_1 rfl rfl ?_
      refine xo_1 rfl rfl ?_
      refine xo_11lt rfl (am_sp ?_ ?_ H)
      · intro hc3 H
        refine xo_0 rfl ?_
        refine xr_42 rfl rfl ?_
        refine xr_42 rfl rfl ?_
        refine xo_10 rfl (by decide) ?_
        refine xo_2 rfl rfl ?_
        refine xo_0 rfl ?_
        refine xo_14 rfl cf_64_3 ?_
        refine xo_0 rfl ?_
        refine xo_42 rfl rfl ?_
        exact H
      · intro hc3 H
        refine xo_1 rfl rfl ?_
        refine xo_1 rfl rfl ?_
        refine xo_11gt rfl (am_sp ?_ ?_ H)
        · intro hc4 H
          refine xo_0 rfl ?_
          refine xr_42 rfl rfl ?_
          refine xr_42 rfl rfl ?_
          refine xo_10 rfl (by decide) ?_
          refine xo_2 rfl rfl ?_
          refine xo_0 rfl ?_
          refine xo_14 rfl cf_64_3 ?_
          refine xo_0 rfl ?_
          refine xo_42 rfl rfl ?_
          exact H
        · intro hc4 H
          refine xo_0 rfl ?_
          refine xo_12 rfl ?_
          refine xr_42 rfl rfl ?_
          refine xr_42 rfl rfl ?_
          refine xo_10n rfl (by decide) ?_
          refine xo_2 rfl rfl ?_
          refine xo_1 rfl rfl ?_
          refine cl_160_64 rfl hd_176 rfl ?_
          refine xo_1 rfl rfl ?_
          refine xo_0 rfl ?_
          refine xo_2 rfl rfl ?_
          refine xo_13r rfl cr_64_4 ?_
          refine xo_0 rfl ?_
          refine xo_17 rfl ca_68 (am_ix.lit rfl) ?_
          refine xo_0 rfl ?_
          refine xo_7 rfl rfl ?_
          refine cl_150 rfl hd_160 rfl ?_
          refine xo_1 rfl rfl ?_
          refine xo_1 rfl rfl ?_
          refine xo_11lt rfl (am_sp ?_ ?_ H)
          · intro hc5 H
            refine xo_0 rfl ?_
            refine xr_42 rfl rfl ?_
            refine xr_42 rfl rfl ?_
            refine xo_10 rfl (by decide) ?_
            refine xo_2 rfl rfl ?_
            refine xo_0 rfl ?_
            refine xo_14 rfl cf_64_3 ?_
            refine xo_0 rfl ?_
            refine xo_42 rfl rfl ?_
            exact H
          · intro hc5 H
            refine xo_1 rfl rfl ?_
            refine xo_1 rfl rfl ?_
            refine xo_11gt rfl (am_sp ?_ ?_ H)
            · intro hc6 H
              refine xo_0 rfl ?_
              refine xr_42 rfl rfl ?_
              refine xr_42 rfl rfl ?_
              refine xo_10 rfl (by decide) ?_
              refine xo_2 rfl rfl ?_
              refine xo_0 rfl ?_
              refine xo_14 rfl cf_64_3 ?_
              refine xo_0 rfl ?_
              refine xo_42 rfl rfl ?_
              exact H
            · intro hc6 H
              refine xo_0 rfl ?_
              refine xo_12 rfl ?_
              refine xr_42 rfl rfl ?_
              refine xr_42 rfl rfl ?_
              refine xo_10n rfl (by decide) ?_
              refine xo_1 rfl rfl ?_
              refine xo_1 rfl rfl ?_
              refine cl_161 rfl hd_176 rfl ?_
              refine xo_1 rfl rfl ?_
              refine xo_0 rfl ?_
              refine xo_0 rfl ?_
              refine cl_150 rfl hd_161 rfl ?_
              refine xo_1 rfl rfl ?_
              refine xo_1 rfl rfl ?_
              refine xo_11lt rfl (am_sp ?_ ?_ H)
              · intro hc7 H
                refine xo_0 rfl ?_
                refine xr_42 rfl rfl ?_
                refine xo_10 rfl (by decide) ?_
                refine xo_0 rfl ?_
                refine xr_42 rfl rfl ?_
                refine xo_10n rfl (by decide) ?_
                refine xo_2 rfl rfl ?_
                refine xo_0 rfl ?_
                refine xo_14 rfl cf_64_3 ?_
                refine xo_0 rfl ?_
                refine xo_42 rfl rfl ?_
                exact H
              · intro hc7 H
                refine xo_1 rfl rfl ?_
                refine xo_1 rfl rfl ?_
                refine xo_11gt rfl (am_sp ?_ ?_ H)
                · intro hc8 H
                  refine xo_0 rfl ?_
                  refine xr_42 rfl rfl ?_
                  refine xo_10 rfl (by decide) ?_
                  refine xo_0 rfl ?_
                  refine xr_42 rfl rfl ?_
                  refine xo_10n rfl (by decide) ?_
                  refine xo_2 rfl rfl ?_
                  refine xo_0 rfl ?_
                  refine xo_14 rfl cf_64_3 ?_
                  refine xo_0 rfl ?_
                  refine xo_42 rfl rfl ?_
                  exact H
                · intro hc8 H
                  refine xo_0 rfl ?_
                  refine xo_12 rfl ?_
                  refine xr_42 rfl rfl ?_
                  refine xo_10n rfl (by decide) ?_
                  refine xo_1 rfl rfl ?_
                  refine xo_0 rfl ?_
                  refine xo_0 rfl ?_
                  refine cl_150 rfl hd_161 rfl ?_
                  refine xo_1 rfl rfl ?_
                  refine xo_1 rfl rfl ?_
                  refine xo_11lt rfl (am_sp ?_ ?_ H)
                  · intro hc9 H
                    refine xo_0 rfl ?_
                    refine xr_42 rfl rfl ?_
                    refine xo_10 rfl (by decide) ?_
                    refine xo_0 rfl ?_
                    refine xr_42 rfl rfl ?_
                    refine xo_10n rfl (by decide) ?_
                    refine xo_2 rfl rfl ?_
                    refine xo_0 rfl ?_
                    refine xo_14 rfl cf_64_3 ?_
                    refine xo_0 rfl ?_
                    refine xo_42 rfl rfl ?_
                    exact H
                  · intro hc9 H
                    refine xo_1 rfl rfl ?_
                    refine xo_1 rfl rfl ?_
                    refine xo_11gt rfl (am_sp ?_ ?_ H)
                    · intro hc10 H
                      refine xo_0 rfl ?_
                      refine xr_42 rfl rfl ?_
                      refine xo_10 rfl (by decide) ?_
                      refine xo_0 rfl ?_
                      refine xr_42 rfl rfl ?_
                      refine xo_10n rfl (by decide) ?_
                      refine xo_2 rfl rfl ?_
                      refine xo_0 rfl ?_
                      refine xo_14 rfl cf_64_3 ?_
                      refine xo_0 rfl ?_
                      refine xo_42 rfl rfl ?_
                      exact H
                    · intro hc10 H
                      refine xo_0 rfl ?_
                      refine xo_12 rfl ?_
                      refine xr_42 rfl rfl ?_
                      refine xo_10n rfl (by decide) ?_
                      refine xo_0 rfl ?_
                      refine xo_12 rfl ?_
                      refine xr_42 rfl rfl ?_
                      refine xo_10 rfl (by decide) ?_
                      refine xo_1 rfl rfl ?_
                      refine xo_0 rfl ?_
                      refine xo_2 rfl rfl ?_
                      refine xo_13 rfl cf_64_28 ?_
                      refine cl_150 rfl hd_176 rfl ?_
                      refine xo_1 rfl rfl ?_
                      refine xo_1 rfl rfl ?_
                      refine xo_11lt rfl (am_sp ?_ ?_ H)
                      · intro hc11 H
                        refine xo_0 rfl ?_
                        refine xr_42 rfl rfl ?_
                        refine xo_10n rfl (by decide) ?_
                        refine xo_2 rfl rfl ?_
                        refine xo_0 rfl ?_
                        refine xo_14 rfl cf_64_3 ?_
                        refine xo_0 rfl ?_
                        refine xo_42 rfl rfl ?_
                        exact H
                      · intro hc11 H
                        refine xo_1 rfl rfl ?_
                        refine xo_1 rfl rfl ?_
                        refine xo_11gt rfl (am_sp ?_ ?_ H)
                        · intro hc12 H
                          refine xo_0 rfl ?_
                          refine xr_42 rfl rfl ?_
                          refine xo_10n rfl (by decide) ?_
                          refine xo_2 rfl rfl ?_
                          refine xo_0 rfl ?_
                          refine xo_14 rfl cf_64_3 ?_
                          refine xo_0 rfl ?_
                          refine xo_42 rfl rfl ?_
                          exact H
                        · intro hc12 H
                          refine xo_0 rfl ?_
                          refine xo_12 rfl ?_
                          refine xr_42 rfl rfl ?_
                          refine xo_10 rfl (by decide) ?_
                          refine xo_2 rfl rfl ?_
                          refine xo_1 rfl rfl ?_
                          refine xo_1 rfl rfl ?_
                          refine xo_1 rfl rfl ?_
                          refine xo_0 rfl ?_
                          refine cl_172_64 rfl hd_176 rfl ?_
                          exact H
theorem sm_176_75 {q1 : Option Value} {x2 : Int32} {x3 : Int32} {x4 : Int32} {x5 : Int32} {q6 : Option Value} (hq1 : am_nl q1 = true) (hq6 : am_nl q6 = true) (H : (am_ix x2 5 ∧ am_X L xs d 177 0 [some (.ref 64), some (.int x2), some (.int x3), some (.int x4), some (.int x5), some (.int (h 77 x2.toNatClampNeg))] [] am_C0 h o g (fun w h' o' g' => am_X L xs (d + 1) 176 91 [some (.ref 64), q1, some (.int x2), some (.int x3), some (.int x4), some (.int x5), q6] (w.toList ++ []) am_C0 h' o' g' Q T) T)) : am_X L xs (d + 1) 176 75 [some (.ref 64), q1, some (.int x2), some (.int x3), some (.int x4), some (.int x5), q6] [] am_C0 h o g Q T := by
  refine xo_2 rfl rfl ?_
  refine xo_1 rfl rfl ?_
  refine xo_1 rfl rfl ?_
  refine xo_1 rfl rfl ?_
  refine xo_1 rfl rfl ?_
  refine xo_2 rfl rfl ?_
  refine xo_13r rfl cr_64_13 ?_
  refine xo_1 rfl rfl ?_
  obtain ⟨hg1, H⟩ := H
  refine xo_17 rfl ca_77 hg1 ?_
  refine cl_177_64 rfl hd_176 rfl ?_
  exact H
theorem sm_176_91 {q0 : Option Value} {q1 : Option Value} {q2 : Option Value} {q3 : Option Value} {q4 : Option Value} {q5 : Option Value} {q6 : Option Value} {z0 : Int32} (hq0 : am_nl q0 = true) (hq1 : am_nl q1 = true) (hq2 : am_nl q2 = true) (hq3 : am_nl q3 = true) (hq4 : am_nl q4 = true) (hq5 : am_nl q5 = true) (hq6 : am_nl q6 = true) (H : (am_bit z0 = true ∧ Q (some (.int z0)) h o g)) : am_X L xs d 176 91 [q0, q1, q2, q3, q4, q5, q6] [.int z0] am_C0 h o g Q T := by
  obtain ⟨hg1, H⟩ := H
  refine xo_42 rfl hg1 ?_
  exact H
theorem sm_177 {x1 : Int32} {x2 : Int32} {x3 : Int32} {x4 : Int32} {x5 : Int32} (H : (if (h 64 36) < (h 64 35) then Q (some (.int 0)) h o g else (am_ix x1 10 ∧ am_X L xs d 179 0 [some (.ref 64), some (.int x1), some (.int x2), some (.int x3), some (.int x4), some (.int (((h 64 36) + ((h 73 x1.toNatClampNeg) * (x5 / 10))) + (h 68 4))), none] [] am_C0 h o g (fun w h' o' g' => am_X L xs (d + 1) 177 38 [some (.ref 64), some (.int x1), some (.int x2), some (.int x3), some (.int x4), some (.int x5)] (w.toList ++ []) am_C0 h' o' g' Q T) T))) : am_X L xs (d + 1) 177 0 [some (.ref 64), some (.int x1), some (.int x2), some (.int x3), some (.int x4), some (.int x5)] [] am_C0 h o g Q T := by
  refine xo_2 rfl rfl ?_
  refine xo_13 rfl cf_64_35 ?_
  refine xo_2 rfl rfl ?_
  refine xo_13 rfl cf_64_36 ?_
  refine xo_11gt rfl (am_sp ?_ ?_ H)
  · intro hc1 H
    refine xo_0 rfl ?_
    refine xo_42 rfl rfl ?_
    exact H
  · intro hc1 H
    refine xo_2 rfl rfl ?_
    refine xo_1 rfl rfl ?_
    refine xo_1 rfl rfl ?_
    refine xo_1 rfl rfl ?_
    refine xo_1 rfl rfl ?_
    refine xo_2 rfl rfl ?_
    refine xo_1 rfl rfl ?_
    refine xo_2 rfl rfl ?_
    refine xo_13 rfl cf_64_36 ?_
    refine xo_1 rfl rfl ?_
    refine cl_178_64 rfl hd_177 rfl ?_
    refine xo_1 rfl rfl ?_
    refine xo_2 rfl rfl ?_
    refine xo_13r rfl cr_64_9 ?_
    refine xo_1 rfl rfl ?_
    obtain ⟨hg2, H⟩ := H
    refine xo_17 rfl ca_73 hg2 ?_
    refine xo_1 rfl rfl ?_
    refine xo_0 rfl ?_
    refine xo_7d rfl (by decide) ?_
    refine xo_7 rfl rfl ?_
    refine xo_7 rfl rfl ?_
    refine xr_41 rfl ?_
    refine xo_2 rfl rfl ?_
    refine xo_13r rfl cr_64_4 ?_
    refine xo_0 rfl ?_
    refine xo_17 rfl ca_68 (am_ix.lit rfl) ?_
    refine xo_7 rfl rfl ?_
    refine cl_179_64 rfl hd_177 rfl ?_
    exact H
theorem sm_177_38 {q0 : Option Value} {q1 : Option Value} {q2 : Option Value} {q3 : Option Value} {q4 : Option Value} {q5 : Option Value} {z0 : Int32} (hq0 : am_nl q0 = true) (hq1 : am_nl q1 = true) (hq2 : am_nl q2 = true) (hq3 : am_nl q3 = true) (hq4 : am_nl q4 = true) (hq5 : am_nl q5 = true) (H : (if z0 = 0 then Q (some (.int 0)) h o g else Q (some (.int 1)) h o g)) : am_X L xs d 177 38 [q0, q1, q2, q3, q4, q5] [.int z0] am_C0 h o g Q T := by
  refine xo_10eq rfl (am_sp ?_ ?_ H)
  · intro hc1 H
    refine xo_0 rfl ?_
    refine xo_42 rfl rfl ?_
    exact H
  · intro hc1 H
    refine xo_0 rfl ?_
    refine xo_12 rfl ?_
    refine xo_42 rfl rfl ?_
    exact H
theorem sm_179 {x1 : Int32} {x2 : Int32} {x3 : Int32} {x4 : Int32} {x5 : Int32} (H : am_X L xs d 179 3 [some (.ref 64), some (.int x1), some (.int x2), some (.int x3), some (.int x4), some (.int x5), some (.int x3)] [] am_C0 h o g Q T) : am_X L xs d 179 0 [some (.ref 64), some (.int x1), some (.int x2), some (.int x3), some (.int x4), some (.int x5), none] [] am_C0 h o g Q T := by
  refine xo_1 rfl rfl ?_
  refine xo_4 (lv' := [some (.ref 64), some (.int x1), some (.int x2), some (.int x3), some (.int x4), some (.int x5), some (.int x3)]) rfl rfl rfl ?_
  exact H
theorem sm_179_3 {x1 : Int32} {x2 : Int32} {x3 : Int32} {x4 : Int32} {x5 : Int32} {x6 : Int32} (H : (am_ix x1 10 ∧ (if x6 < (x3 + (h 72 x1.toNatClampNeg)) then (am_ix x2 10 ∧ (if (h 74 x2.toNatClampNeg) = 2 then (if (h 74 x2.toNatClampNeg) = 1 then (if (((if 0 < ((h 75 x2.toNatClampNeg) - (((h 76 x2.toNatClampNeg) * x4) / 10)) then ((h 75 x2.toNatClampNeg) - (((h 76 x2.toNatClampNeg) * x4) / 10)) else 0) + (fn_163 h 6)) + 2) < x5 then Q (some (.int 0)) h o g else am_X L xs (d + 2) 179 3 [some (.ref 64), some (.int x1), some (.int x2), some (.int x3), some (.int x4), some (.int x5), some (.int (x6 + 1))] [] am_C0 h o g Q T) else (if (((if 0 < ((h 75 x2.toNatClampNeg) - (((h 76 x2.toNatClampNeg) * x4) / 10)) then ((h 75 x2.toNatClampNeg) - (((h 76 x2.toNatClampNeg) * x4) / 10)) else 0) + (fn_163 h 6)) + 0) < x5 then Q (some (.int 0)) h o g else am_X L xs (d + 2) 179 3 [some (.ref 64), some (.int x1), some (.int x2), some (.int x3), some (.int x4), some (.int x5), some (.int (x6 + 1))] [] am_C0 h o g Q T)) else (if (h 74 x2.toNatClampNeg) = 1 then (if (((if 0 < ((h 75 x2.toNatClampNeg) - (((h 76 x2.toNatClampNeg) * x4) / 10)) then ((h 75 x2.toNatClampNeg) - (((h 76 x2.toNatClampNeg) * x4) / 10)) else 0) + (fn_163 h x6)) + 2) < x5 then Q (some (.int 0)) h o g else am_X L xs (d + 2) 179 3 [some (.ref 64), some (.int x1), some (.int x2), some (.int x3), some (.int x4), some (.int x5), some (.int (x6 + 1))] [] am_C0 h o g Q T) else (if (((if 0 < ((h 75 x2.toNatClampNeg) - (((h 76 x2.toNatClampNeg) * x4) / 10)) then ((h 75 x2.toNatClampNeg) - (((h 76 x2.toNatClampNeg) * x4) / 10)) else 0) + (fn_163 h x6)) + 0) < x5 then Q (some (.int 0)) h o g else am_X L xs (d + 2) 179 3 [some (.ref 64), some (.int x1), some (.int x2), some (.int x3), some (.int x4), some (.int x5), some (.int (x6 + 1))] [] am_C0 h o g Q T)))) else Q (some (.int 1)) h o g))) : am_X L xs (d + 2) 179 3 [some (.ref 64), some (.int x1), some (.int x2), some (.int x3), some (.int x4), some (.int x5), some (.int x6)] [] am_C0 h o g Q T := by
  refine xo_1 rfl rfl ?_
  refine xo_1 rfl rfl ?_
  refine xo_2 rfl rfl ?_
  refine xo_13r rfl cr_64_8 ?_
  refine xo_1 rfl rfl ?_
  obtain ⟨hg1, H⟩ := H
  refine xo_17 rfl ca_72 hg1 ?_
  refine xo_7 rfl rfl ?_
  refine xo_11ge rfl (am_sp ?_ ?_ H)
  · intro hc2 H
    refine xo_2 rfl rfl ?_
    refine xo_1 rfl rfl ?_
    refine xo_1 rfl rfl ?_
    refine xo_1 rfl rfl ?_
    refine cl_162_64 rfl hd_179 rfl ?_
    refine xo_0 rfl ?_
    refine xo_2 rfl rfl ?_
    refine xo_13r rfl cr_64_11 ?_
    refine xo_1 rfl rfl ?_
    obtain ⟨hg3, H⟩ := H
    refine xo_17 rfl ca_75 hg3 ?_
    refine xo_2 rfl rfl ?_
    refine xo_13r rfl cr_64_12 ?_
    refine xo_1 rfl rfl ?_
    refine xo_17 rfl ca_76 hg3 ?_
    refine xo_1 rfl rfl ?_
    refine xo_7 rfl rfl ?_
    refine xo_0 rfl ?_
    refine xo_7d rfl (by decide) ?_
    refine xo_7 rfl rfl ?_
    refine xo_47x rfl (Nat.le_of_ble_eq_true rfl) ?_
    refine xo_4 (lv' := [some (.ref 64), some (.int x2), some (.int x6), some (.int x4), some (.int (if 0 < ((h 75 x2.toNatClampNeg) - (((h 76 x2.toNatClampNeg) * x4) / 10)) then ((h 75 x2.toNatClampNeg) - (((h 76 x2.toNatClampNeg) * x4) / 10)) else 0))]) rfl rfl rfl ?_
    refine xo_1 rfl rfl ?_
    refine xo_2 rfl rfl ?_
    refine xo_2 rfl rfl ?_
    refine xo_13r rfl cr_64_10 ?_
    refine xo_1 rfl rfl ?_
    refine xo_17 rfl ca_74 hg3 ?_
    refine xo_0 rfl ?_
    refine xo_11ne rfl (am_sp ?_ ?_ H)
    · intro hc4 H
      refine xo_0 rfl ?_
      refine xo_12 rfl ?_
      refine cl_163_64 rfl hd_162 rfl (sf_163 ?_)
      show am_X L xs (d + 1) 162 46 [some (.ref 64), some (.int x2), some (.int x6), some (.int x4), some (.int (if 0 < ((h 75 x2.toNatClampNeg) - (((h 76 x2.toNatClampNeg) * x4) / 10)) then ((h 75 x2.toNatClampNeg) - (((h 76 x2.toNatClampNeg) * x4) / 10)) else 0))] [.int (fn_163 h 6), .int (if 0 < ((h 75 x2.toNatClampNeg) - (((h 76 x2.toNatClampNeg) * x4) / 10)) then ((h 75 x2.toNatClampNeg) - (((h 76 x2.toNatClampNeg) * x4) / 10)) else 0)] am_C0 h o g (fun w h' o' g' => am_X L xs (d + 2) 179 25 [some (.ref 64), some (.int x1), some (.int x2), some (.int x3), some (.int x4), some (.int x5), some (.int x6)] (w.toList ++ []) am_C0 h' o' g' Q T) T
      refine xo_7 rfl rfl ?_
      refine xo_2 rfl rfl ?_
      refine xo_13r rfl cr_64_10 ?_
      refine xo_1 rfl rfl ?_
      refine xo_17 rfl ca_74 hg3 ?_
      refine xo_0 rfl ?_
      refine xo_11ne rfl (am_sp ?_ ?_ H)
      · intro hc5 H
        refine xo_0 rfl ?_
        refine xo_12 rfl ?_
        refine xo_7 rfl rfl ?_
        refine xr_41 rfl ?_
        refine xo_1 rfl rfl ?_
        refine xo_11ge rfl (am_sp ?_ ?_ H)
        · intro hc6 H
          refine xo_0 rfl ?_
          refine xo_42 rfl rfl ?_
          exact H
        · intro hc6 H
          refine xo_9 (z := (x6 + 1)) (lv' := [some (.ref 64), some (.int x1), some (.int x2), some (.int x3), some (.int x4), some (.int x5), some (.int (x6 + 1))]) rfl rfl rfl rfl rfl ?_
          refine xo_12 rfl ?_
          exact H
      · intro hc5 H
        refine xo_0 rfl ?_
        refine xo_7 rfl rfl ?_
        refine xr_41 rfl ?_
        refine xo_1 rfl rfl ?_
        refine xo_11ge rfl (am_sp ?_ ?_ H)
        · intro hc7 H
          refine xo_0 rfl ?_
          refine xo_42 rfl rfl ?_
          exact H
        · intro hc7 H
          refine xo_9 (z := (x6 + 1)) (lv' := [some (.ref 64), some (.int x1), some (.int x2), some (.int x3), some (.int x4), some (.int x5), some (.int (x6 + 1))]) rfl rfl rfl rfl rfl ?_
          refine xo_12 rfl ?_
          exact H
    · intro hc4 H
      refine xo_1 rfl rfl ?_
      refine cl_163_64 rfl hd_162 rfl (sf_163 ?_)
      show am_X L xs (d + 1) 162 46 [some (.ref 64), some (.int x2), some (.int x6), some (.int x4), some (.int (if 0 < ((h 75 x2.toNatClampNeg) - (((h 76 x2.toNatClampNeg) * x4) / 10)) then ((h 75 x2.toNatClampNeg) - (((h 76 x2.toNatClampNeg) * x4) / 10)) else 0))] [.int (fn_163 h x6), .int (if 0 < ((h 75 x2.toNatClampNeg) - (((h 76 x2.toNatClampNeg) * x4) / 10)) then ((h 75 x2.toNatClampNeg) - (((h 76 x2.toNatClampNeg) * x4) / 10)) else 0)] am_C0 h o g (fun w h' o' g' => am_X L xs (d + 2) 179 25 [some (.ref 64), some (.int x1), some (.int x2), some (.int x3), some (.int x4), some (.int x5), some (.int x6)] (w.toList ++ []) am_C0 h' o' g' Q T) T
      refine xo_7 rfl rfl ?_
      refine xo_2 rfl rfl ?_
      refine xo_13r rfl cr_64_10 ?_
      refine xo_1 rfl rfl ?_
      refine xo_17 rfl ca_74 hg3 ?_
      refine xo_0 rfl ?_
      refine xo_11ne rfl (am_sp ?_ ?_ H)
      · intro hc8 H
        refine xo_0 rfl ?_
        refine xo_12 rfl ?_
        refine xo_7 rfl rfl ?_
        refine xr_41 rfl ?_
        refine xo_1 rfl rfl ?_
        refine xo_11ge rfl (am_sp ?_ ?_ H)
        · intro hc9 H
          refine xo_0 rfl ?_
          refine xo_42 rfl rfl ?_
          exact H
        · intro hc9 H
          refine xo_9 (z := (x6 + 1)) (lv' := [some (.ref 64), some (.int x1), some (.int x2), some (.int x3), some (.int x4), some (.int x5), some (.int (x6 + 1))]) rfl rfl rfl rfl rfl ?_
          refine xo_12 rfl ?_
          exact H
      · intro hc8 H
        refine xo_0 rfl ?_
        refine xo_7 rfl rfl ?_
        refine xr_41 rfl ?_
        refine xo_1 rfl rfl ?_
        refine xo_11ge rfl (am_sp ?_ ?_ H)
        · intro hc10 H
          refine xo_0 rfl ?_
          refine xo_42 rfl rfl ?_
          exact H
        · intro hc10 H
          refine xo_9 (z := (x6 + 1)) (lv' := [some (.ref 64), some (.int x1), some (.int x2), some (.int x3), some (.int x4), some (.int x5), some (.int (x6 + 1))]) rfl rfl rfl rfl rfl ?_
          refine xo_12 rfl ?_
          exact H
  · intro hc2 H
    refine xo_0 rfl ?_
    refine xo_42 rfl rfl ?_
    exact H
theorem sm_180 {x1 : Int32} {x2 : Int32} (H : (if x1 < 0 then Q (some (.int 0)) (am_set (am_set h 64 3 0) 64 3 1) o g else (if ((h 68 1) - 1) < x1 then Q (some (.int 0)) (am_set (am_set h 64 3 0) 64 3 1) o g else (if x2 < 0 then Q (some (.int 0)) (am_set (am_set h 64 3 0) 64 3 1) o g else (if 9999 < x2 then Q (some (.int 0)) (am_set (am_set h 64 3 0) 64 3 1) o g else am_X L xs (d + 1) 181 0 [some (.ref 64), some (.int x1), some (.int x2), none] [] am_C0 (am_set h 64 3 0) o g (fun w h' o' g' => am_X L xs (d + 2) 180 36 [some (.ref 64), some (.int x1), some (.int x2), none, none] (w.toList ++ []) am_C0 h' o' g' Q T) T))))) : am_X L xs (d + 2) 180 0 [some (.ref 64), some (.int x1), some (.int x2), none, none] [] am_C0 h o g Q T := by
  refine xo_2 rfl rfl ?_
  refine xo_0 rfl ?_
  refine xo_14 rfl cf_64_3 ?_
  refine xo_2 rfl rfl ?_
  refine xo_1 rfl rfl ?_
  refine cl_157_64 rfl hd_180 rfl ?_
  refine xo_1 rfl rfl ?_
  refine xo_0 rfl ?_
  refine xo_2 rfl rfl ?_
  refine xo_13r rfl cr_64_4 ?_
  refine xo_0 rfl ?_
  refine xo_17 rfl ca_68 (am_ix.lit rfl) ?_
  refine xo_0 rfl ?_
  refine xo_7 rfl rfl ?_
  refine cl_150 rfl hd_157 rfl ?_
  refine xo_1 rfl rfl ?_
  refine xo_1 rfl rfl ?_
  refine xo_11lt rfl (am_sp ?_ ?_ H)
  · intro hc1 H
    refine xo_0 rfl ?_
    refine xr_42 rfl rfl ?_
    refine xr_42 rfl rfl ?_
    refine xo_10 rfl (by decide) ?_
    refine xo_2 rfl rfl ?_
    refine xo_0 rfl ?_
    refine cl_133_64 rfl hd_180 rfl ?_
    refine xo_2 rfl rfl ?_
    refine xo_1 rfl rfl ?_
    refine xo_14 rfl cf_64_3 ?_
    refine xo_0 rfl ?_
    refine xr_41 rfl ?_
    refine xo_41 rfl ?_
    exact H
  · intro hc1 H
    refine xo_1 rfl rfl ?_
    refine xo_1 rfl rfl ?_
    refine xo_11gt rfl (am_sp ?_ ?_ H)
    · intro hc2 H
      refine xo_0 rfl ?_
      refine xr_42 rfl rfl ?_
      refine xr_42 rfl rfl ?_
      refine xo_10 rfl (by decide) ?_
      refine xo_2 rfl rfl ?_
      refine xo_0 rfl ?_
      refine cl_133_64 rfl hd_180 rfl ?_
      refine xo_2 rfl rfl ?_
      refine xo_1 rfl rfl ?_
      refine xo_14 rfl cf_64_3 ?_
      refine xo_0 rfl ?_
      refine xr_41 rfl ?_
      refine xo_41 rfl ?_
      exact H
    · intro hc2 H
      refine xo_0 rfl ?_
      refine xo_12 rfl ?_
      refine xr_42 rfl rfl ?_
      refine xr_42 rfl rfl ?_
      refine xo_10n rfl (by decide) ?_
      refine xo_1 rfl rfl ?_
      refine xo_0 rfl ?_
      refine xo_0 rfl ?_
      refine cl_150 rfl hd_180 rfl ?_
      refine xo_1 rfl rfl ?_
      refine xo_1 rfl rfl ?_
      refine xo_11lt rfl (am_sp ?_ ?_ H)
      · intro hc3 H
        refine xo_0 rfl ?_
        refine xr_42 rfl rfl ?_
        refine xo_10n rfl (by decide) ?_
        refine xo_2 rfl rfl ?_
        refine xo_0 rfl ?_
        refine cl_133_64 rfl hd_180 rfl ?_
        refine xo_2 rfl rfl ?_
        refine xo_1 rfl rfl ?_
        refine xo_14 rfl cf_64_3 ?_
        refine xo_0 rfl ?_
        refine xr_41 rfl ?_
        refine xo_41 rfl ?_
        exact H
      · intro hc3 H
        refine xo_1 rfl rfl ?_
        refine xo_1 rfl rfl ?_
        refine xo_11gt rfl (am_sp ?_ ?_ H)
        · intro hc4 H
          refine xo_0 rfl ?_
          refine xr_42 rfl rfl ?_
          refine xo_10n rfl (by decide) ?_
          refine xo_2 rfl rfl ?_
          refine xo_0 rfl ?_
          refine cl_133_64 rfl hd_180 rfl ?_
          refine xo_2 rfl rfl ?_
          refine xo_1 rfl rfl ?_
          refine xo_14 rfl cf_64_3 ?_
          refine xo_0 rfl ?_
          refine xr_41 rfl ?_
          refine xo_41 rfl ?_
          exact H
        · intro hc4 H
          refine xo_0 rfl ?_
          refine xo_12 rfl ?_
          refine xr_42 rfl rfl ?_
          refine xo_10 rfl (by decide) ?_
          refine xo_2 rfl rfl ?_
          refine xo_1 rfl rfl ?_
          refine xo_1 rfl rfl ?_
          refine cl_181_64 rfl hd_180 rfl ?_
          exact H
theorem sm_180_36 {q1 : Option Value} {q2 : Option Value} {q3 : Option Value} {q4 : Option Value} (hq1 : am_nl q1 = true) (hq2 : am_nl q2 = true) (hq3 : am_nl q3 = true) (hq4 : am_nl q4 = true) (H : am_X L xs d 184 0 [some (.ref 64)] [] am_C0 h o g (fun w h' o' g' => am_X L xs (d + 1) 180 40 [some (.ref 64), q1, q2, q3, q4] (w.toList ++ []) am_C0 h' o' g' Q T) T) : am_X L xs (d + 1) 180 36 [some (.ref 64), q1, q2, q3, q4] [] am_C0 h o g Q T := by
  refine xo_2 rfl rfl ?_
  refine cl_184_64 rfl hd_180 rfl ?_
  exact H
theorem sm_180_40 {q1 : Option Value} {q2 : Option Value} {q3 : Option Value} {q4 : Option Value} {z0 : Int32} (hq1 : am_nl q1 = true) (hq2 : am_nl q2 = true) (hq3 : am_nl q3 = true) (hq4 : am_nl q4 = true) (H : am_X L xs d 180 49 [some (.ref 64), q1, q2, some (.int z0), some (.int 0)] [] am_C0 (am_set h 64 45 1) o g Q T) : am_X L xs d 180 40 [some (.ref 64), q1, q2, q3, q4] [.int z0] am_C0 h o g Q T := by
  refine xo_4 (lv' := [some (.ref 64), q1, q2, some (.int z0), q4]) rfl hq2 rfl ?_
  refine xo_2 rfl rfl ?_
  refine xo_0 rfl ?_
  refine xo_15 rfl cf_64_45 rfl ?_
  refine xo_0 rfl ?_
  refine xo_4 (lv' := [some (.ref 64), q1, q2, some (.int z0), some (.int 0)]) rfl rfl rfl ?_
  exact H
theorem sm_180_49 {q1 : Option Value} {q2 : Option Value} {x3 : Int32} {x4 : Int32} (hq1 : am_nl q1 = true) (hq2 : am_nl q2 = true) (H : (if x4 < (h 68 0) then (am_ix x4 5 ∧ (if (h 91 x4.toNatClampNeg) = (h 68 2) then am_X L xs d 180 49 [some (.ref 64), q1, q2, some (.int x3), some (.int (x4 + 1))] [] am_C0 (am_set (am_set h 93 x4.toNatClampNeg (-1)) 94 x4.toNatClampNeg (h 92 x4.toNatClampNeg)) o g Q T else am_X L xs d 180 49 [some (.ref 64), q1, q2, some (.int x3), some (.int (x4 + 1))] [] am_C0 (am_set (am_set h 93 x4.toNatClampNeg (h 91 x4.toNatClampNeg)) 94 x4.toNatClampNeg (h 92 x4.toNatClampNeg)) o g Q T)) else Q (some (.int x3)) h o g)) : am_X L xs d 180 49 [some (.ref 64), q1, q2, some (.int x3), some (.int x4)] [] am_C0 h o g Q T := by
  refine xo_1 rfl rfl ?_
  refine xo_2 rfl rfl ?_
  refine xo_13r rfl cr_64_4 ?_
  refine xo_0 rfl ?_
  refine xo_17 rfl ca_68 (am_ix.lit rfl) ?_
  refine xo_11ge rfl (am_sp ?_ ?_ H)
  · intro hc1 H
    refine xo_2 rfl rfl ?_
    refine xo_13r rfl cr_64_42 ?_
    refine xo_1 rfl rfl ?_
    refine xo_2 rfl rfl ?_
    refine xo_13r rfl cr_64_40 ?_
    refine xo_1 rfl rfl ?_
    obtain ⟨hg2, H⟩ := H
    refine xo_17 rfl ca_91 hg2 ?_
    refine xo_2 rfl rfl ?_
    refine xo_13r rfl cr_64_4 ?_
    refine xo_0 rfl ?_
    refine xo_17 rfl ca_68 (am_ix.lit rfl) ?_
    refine xo_11ne rfl (am_sp ?_ ?_ H)
    · intro hc3 H
      refine xo_0 rfl ?_
      refine xo_12 rfl ?_
      refine xo_22 rfl ca_93 hg2 ?_
      refine xo_2 rfl rfl ?_
      refine xo_13r rfl cr_64_43 ?_
      refine xo_1 rfl rfl ?_
      refine xo_2 rfl rfl ?_
      refine xo_13r rfl cr_64_41 ?_
      refine xo_1 rfl rfl ?_
      refine xo_17 rfl ca_92 hg2 ?_
      refine xo_22 rfl ca_94 hg2 ?_
      refine xo_9 (z := (x4 + 1)) (lv' := [some (.ref 64), q1, q2, some (.int x3), some (.int (x4 + 1))]) rfl rfl rfl rfl rfl ?_
      refine xo_12 rfl ?_
      exact H
    · intro hc3 H
      refine xo_2 rfl rfl ?_
      refine xo_13r rfl cr_64_40 ?_
      refine xo_1 rfl rfl ?_
      refine xo_17 rfl ca_91 hg2 ?_
      refine xo_22 rfl ca_93 hg2 ?_
      refine xo_2 rfl rfl ?_
      refine xo_13r rfl cr_64_43 ?_
      refine xo_1 rfl rfl ?_
      refine xo_2 rfl rfl ?_
      refine xo_13r rfl cr_64_41 ?_
      refine xo_1 rfl rfl ?_
      refine xo_17 rfl ca_92 hg2 ?_
      refine xo_22 rfl ca_94 hg2 ?_
      refine xo_9 (z := (x4 + 1)) (lv' := [some (.ref 64), q1, q2, some (.int x3), some (.int (x4 + 1))]) rfl rfl rfl rfl rfl ?_
      refine xo_12 rfl ?_
      exact H
  · intro hc1 H
    refine xo_1 rfl rfl ?_
    refine xo_41 rfl ?_
    exact H
theorem sm_181 {x1 : Int32} {x2 : Int32} (H : am_X L xs d 181 2 [some (.ref 64), some (.int x1), some (.int x2), some (.int 0)] [] am_C0 h o g Q T) : am_X L xs d 181 0 [some (.ref 64), some (.int x1), some (.int x2), none] [] am_C0 h o g Q T := by
  refine xo_0 rfl ?_
  refine xo_4 (lv' := [some (.ref 64), some (.int x1), some (.int x2), some (.int 0)]) rfl rfl rfl ?_
  exact H
theorem sm_181_2 {x1 : Int32} {x2 : Int32} {x3 : Int32} (H : (if x3 < (h 68 0) then am_X L xs d 172 0 [some (.ref 64), some (.int x1), some (.int x3), some (.int (h 64 28)), some (.int (-1)), none] [] am_C0 h o g (fun w h' o' g' => am_X L xs (d + 1) 181 23 [some (.ref 64), some (.int x1), some (.int x2), some (.int x3)] (w.toList ++ []) am_C0 h' o' g' Q T) T else Q none h o g)) : am_X L xs (d + 1) 181 2 [some (.ref 64), some (.int x1), some (.int x2), some (.int x3)] [] am_C0 h o g Q T := by
  refine xo_1 rfl rfl ?_
  refine xo_2 rfl rfl ?_
  refine xo_13r rfl cr_64_4 ?_
  refine xo_0 rfl ?_
  refine xo_17 rfl ca_68 (am_ix.lit rfl) ?_
  refine xo_11ge rfl (am_sp ?_ ?_ H)
  · intro hc1 H
    refine xo_2 rfl rfl ?_
    refine xo_1 rfl rfl ?_
    refine xo_1 rfl rfl ?_
    refine xo_2 rfl rfl ?_
    refine xo_13 rfl cf_64_28 ?_
    refine xo_0 rfl ?_
    refine cl_172_64 rfl hd_181 rfl ?_
    exact H
  · intro hc1 H
    refine xo_44 rfl ?_
    exact H
theorem sm_181_23 {x1 : Int32} {x2 : Int32} {x3 : Int32} (H : am_X L xs d 182 0 [some (.ref 64), some (.int x3), some (.int x2), none, none] [] am_C0 h o g (fun w h' o' g' => am_X L xs (d + 1) 181 29 [some (.ref 64), some (.int x1), some (.int x2), some (.int x3)] (w.toList ++ []) am_C0 h' o' g' Q T) T) : am_X L xs (d + 1) 181 23 [some (.ref 64), some (.int x1), some (.int x2), some (.int x3)] [] am_C0 h o g Q T := by
  refine xo_2 rfl rfl ?_
  refine xo_1 rfl rfl ?_
  refine xo_1 rfl rfl ?_
  refine cl_182_64 rfl hd_181 rfl ?_
  exact H
theorem sm_181_29 {x1 : Int32} {x2 : Int32} {x3 : Int32} (H : am_X L xs d 181 2 [some (.ref 64), some (.int x1), some (.int x2), some (.int (x3 + 1))] [] am_C0 h o g Q T) : am_X L xs d 181 29 [some (.ref 64), some (.int x1), some (.int x2), some (.int x3)] [] am_C0 h o g Q T := by
  refine xo_9 (z := (x3 + 1)) (lv' := [some (.ref 64), some (.int x1), some (.int x2), some (.int (x3 + 1))]) rfl rfl rfl rfl rfl ?_
  refine xo_12 rfl ?_
  exact H
theorem sm_182 {x1 : Int32} {x2 : Int32} (H : am_X L xs d 182 2 [some (.ref 64), some (.int x1), some (.int x2), some (.int 0), none] [] am_C0 h o g Q T) : am_X L xs d 182 0 [some (.ref 64), some (.int x1), some (.int x2), none, none] [] am_C0 h o g Q T := by
  refine xo_0 rfl ?_
  refine xo_4 (lv' := [some (.ref 64), some (.int x1), some (.int x2), some (.int 0), none]) rfl rfl rfl ?_
  exact H
theorem sm_182_2 {x1 : Int32} {x2 : Int32} {x3 : Int32} {q4 : Option Value} (hq4 : am_nl q4 = true) (H : (if x3 < (h 68 2) then am_X L xs d 182 15 [some (.ref 64), some (.int x1), some (.int x2), some (.int x3), some (.int 0)] [] am_C0 h o g Q T else Q none h o g)) : am_X L xs d 182 2 [some (.ref 64), some (.int x1), some (.int x2), some (.int x3), q4] [] am_C0 h o g Q T := by
  refine xo_1 rfl rfl ?_
  refine xo_2 rfl rfl ?_
  refine xo_13r rfl cr_64_4 ?_
  refine xo_0 rfl ?_
  refine xo_17 rfl ca_68 (am_ix.lit rfl) ?_
  refine xo_11ge rfl (am_sp ?_ ?_ H)
  · intro hc1 H
    refine xo_0 rfl ?_
    refine xo_4 (lv' := [some (.ref 64), some (.int x1), some (.int x2), some (.int x3), some (.int 0)]) rfl rfl rfl ?_
    exact H
  · intro hc1 H
    refine xo_44 rfl ?_
    exact H
theorem sm_182_15 {x1 : Int32} {x2 : Int32} {x3 : Int32} {x4 : Int32} (H : (if x4 < 3 then (if (h 68 5) < x4 then (am_ix (fn_183 x1 x3 x4) 75 ∧ am_X L xs (d + 1) 182 15 [some (.ref 64), some (.int x1), some (.int x2), some (.int x3), some (.int (x4 + 1))] [] am_C0 (am_set h 88 ((fn_183 x1 x3 x4).toNatClampNeg) (vp_nar .boolean 0)) o g Q T) else (am_ix x1 10 ∧ (am_ix x1 5 ∧ am_X L xs d 177 0 [some (.ref 64), some (.int x1), some (.int x3), some (.int ((h 71 x1.toNatClampNeg) + x4)), some (.int x2), some (.int (h 77 x1.toNatClampNeg))] [] am_C0 h o g (fun w h' o' g' => am_X L xs (d + 1) 182 65 [some (.ref 64), some (.int x1), some (.int x2), some (.int x3), some (.int x4)] (w.toList ++ [.int (fn_183 x1 x3 x4), .ref 88]) am_C0 h' o' g' Q T) T))) else am_X L xs (d + 1) 182 2 [some (.ref 64), some (.int x1), some (.int x2), some (.int (x3 + 1)), some (.int x4)] [] am_C0 h o g Q T)) : am_X L xs (d + 1) 182 15 [some (.ref 64), some (.int x1), some (.int x2), some (.int x3), some (.int x4)] [] am_C0 h o g Q T := by
  refine xo_1 rfl rfl ?_
  refine xo_0 rfl ?_
  refine xo_11ge rfl (am_sp ?_ ?_ H)
  · intro hc1 H
    refine xo_2 rfl rfl ?_
    refine xo_13r rfl cr_64_37 ?_
    refine xo_1 rfl rfl ?_
    refine xo_1 rfl rfl ?_
    refine xo_1 rfl rfl ?_
    refine cl_183 rfl hd_182 rfl (sf_183 ?_)
    show am_X L xs (d + 1) 182 32 [some (.ref 64), some (.int x1), some (.int x2), some (.int x3), some (.int x4)] [.int (fn_183 x1 x3 x4), .ref 88] am_C0 h o g Q T
    refine xo_1 rfl rfl ?_
    refine xo_2 rfl rfl ?_
    refine xo_13r rfl cr_64_4 ?_
    refine xo_0 rfl ?_
    refine xo_17 rfl ca_68 (am_ix.lit rfl) ?_
    refine xo_11gt rfl (am_sp ?_ ?_ H)
    · intro hc2 H
      refine xo_0 rfl ?_
      obtain ⟨hg3, H⟩ := H
      refine xo_23b rfl ca_88 hg3 ?_
      refine xo_9 (z := (x4 + 1)) (lv' := [some (.ref 64), some (.int x1), some (.int x2), some (.int x3), some (.int (x4 + 1))]) rfl rfl rfl rfl rfl ?_
      refine xo_12 rfl ?_
      exact H
    · intro hc2 H
      refine xo_2 rfl rfl ?_
      refine xo_1 rfl rfl ?_
      refine xo_1 rfl rfl ?_
      refine xo_2 rfl rfl ?_
      refine xo_13r rfl cr_64_7 ?_
      refine xo_1 rfl rfl ?_
      obtain ⟨hg4, H⟩ := H
      refine xo_17 rfl ca_71 hg4 ?_
      refine xo_1 rfl rfl ?_
      refine xo_7 rfl rfl ?_
      refine xo_1 rfl rfl ?_
      refine xo_2 rfl rfl ?_
      refine xo_13r rfl cr_64_13 ?_
      refine xo_1 rfl rfl ?_
      obtain ⟨hg5, H⟩ := H
      refine xo_17 rfl ca_77 hg5 ?_
      refine cl_177_64 rfl hd_182 rfl ?_
      exact H
  · intro hc1 H
    refine xo_9 (z := (x3 + 1)) (lv' := [some (.ref 64), some (.int x1), some (.int x2), some (.int (x3 + 1)), some (.int x4)]) rfl rfl rfl rfl rfl ?_
    refine xo_12 rfl ?_
    exact H
theorem sm_182_65 {x1 : Int32} {x2 : Int32} {x3 : Int32} {x4 : Int32} {z1 : Int32} {z2 : Int32} (H : (if z2 = 0 then (am_ix z1 75 ∧ am_X L xs d 182 15 [some (.ref 64), some (.int x1), some (.int x2), some (.int x3), some (.int (x4 + 1))] [] am_C0 (am_set h 88 z1.toNatClampNeg (vp_nar .boolean 0)) o g Q T) else (am_ix z1 75 ∧ am_X L xs d 182 15 [some (.ref 64), some (.int x1), some (.int x2), some (.int x3), some (.int (x4 + 1))] [] am_C0 (am_set h 88 z1.toNatClampNeg (vp_nar .boolean 1)) o g Q T))) : am_X L xs d 182 65 [some (.ref 64), some (.int x1), some (.int x2), some (.int x3), some (.int x4)] [.int z2, .int z1, .ref 88] am_C0 h o g Q T := by
  refine xo_10eq rfl (am_sp ?_ ?_ H)
  · intro hc1 H
    refine xo_0 rfl ?_
    obtain ⟨hg2, H⟩ := H
    refine xo_23b rfl ca_88 hg2 ?_
    refine xo_9 (z := (x4 + 1)) (lv' := [some (.ref 64), some (.int x1), some (.int x2), some (.int x3), some (.int (x4 + 1))]) rfl rfl rfl rfl rfl ?_
    refine xo_12 rfl ?_
    exact H
  · intro hc1 H
    refine xo_0 rfl ?_
    refine xo_12 rfl ?_
    obtain ⟨hg3, H⟩ := H
    refine xo_23b rfl ca_88 hg3 ?_
    refine xo_9 (z := (x4 + 1)) (lv' := [some (.ref 64), some (.int x1), some (.int x2), some (.int x3), some (.int (x4 + 1))]) rfl rfl rfl rfl rfl ?_
    refine xo_12 rfl ?_
    exact H
theorem sm_184 (H : am_X L xs d 185 0 [some (.ref 64), some (.int 0), some (.int 0), none] [] am_C0 (am_set h 64 44 (-1)) o g (fun w h' o' g' => am_X L xs (d + 1) 184 11 [some (.ref 64)] (w.toList ++ []) am_C0 h' o' g' Q T) T) : am_X L xs (d + 1) 184 0 [some (.ref 64)] [] am_C0 h o g Q T := by
  refine xo_2 rfl rfl ?_
  refine xo_0 rfl ?_
  refine xo_14 rfl cf_64_44 ?_
  refine xo_2 rfl rfl ?_
  refine xo_0 rfl ?_
  refine xo_0 rfl ?_
  refine cl_185_64 rfl hd_184 rfl ?_
  exact H
theorem sm_184_11 (H : Q (some (.int (h 64 44))) h o g) : am_X L xs d 184 11 [some (.ref 64)] [] am_C0 h o g Q T := by
  refine xo_2 rfl rfl ?_
  refine xo_13 rfl cf_64_44 ?_
  refine xo_41 rfl ?_
  exact H
theorem sm_185 {x1 : Int32} {x2 : Int32} (H : (if (h 64 44) < ((x2 + (h 68 0)) - x1) then (if x1 = (h 68 0) then am_X L xs d 186 0 [some (.ref 64), some (.int 0), none, none, none] [] am_C0 h o g (fun w h' o' g' => am_X L xs (d + 1) 185 33 [some (.ref 64), some (.int x1), some (.int x2), none] (w.toList ++ []) am_C0 h' o' g' Q T) T else am_X L xs (d + 1) 185 82 [some (.ref 64), some (.int x1), some (.int x2), some (.int 0)] [] am_C0 h o g Q T) else Q none h o g)) : am_X L xs (d + 1) 185 0 [some (.ref 64), some (.int x1), some (.int x2), none] [] am_C0 h o g Q T := by
  refine xo_1 rfl rfl ?_
  refine xo_2 rfl rfl ?_
  refine xo_13r rfl cr_64_4 ?_
  refine xo_0 rfl ?_
  refine xo_17 rfl ca_68 (am_ix.lit rfl) ?_
  refine xo_7 rfl rfl ?_
  refine xo_1 rfl rfl ?_
  refine xo_7 rfl rfl ?_
  refine xo_2 rfl rfl ?_
  refine xo_13 rfl cf_64_44 ?_
  refine xo_11gt rfl (am_sp ?_ ?_ H)
  · intro hc1 H
    refine xo_1 rfl rfl ?_
    refine xo_2 rfl rfl ?_
    refine xo_13r rfl cr_64_4 ?_
    refine xo_0 rfl ?_
    refine xo_17 rfl ca_68 (am_ix.lit rfl) ?_
    refine xo_11ne rfl (am_sp ?_ ?_ H)
    · intro hc2 H
      refine xo_2 rfl rfl ?_
      refine xo_0 rfl ?_
      refine cl_186_64 rfl hd_185 rfl ?_
      exact H
    · intro hc2 H
      refine xo_0 rfl ?_
      refine xo_4 (lv' := [some (.ref 64), some (.int x1), some (.int x2), some (.int 0)]) rfl rfl rfl ?_
      exact H
  · intro hc1 H
    refine xo_44 rfl ?_
    exact H
theorem sm_185_33 {x1 : Int32} {x2 : Int32} {q3 : Option Value} {z0 : Int32} (hq3 : am_nl q3 = true) (H : (if z0 = 0 then Q none h o g else am_X L xs d 185 44 [some (.ref 64), some (.int x1), some (.int x2), some (.int 0)] [] am_C0 (am_set h 64 44 x2) o g Q T)) : am_X L xs d 185 33 [some (.ref 64), some (.int x1), some (.int x2), q3] [.int z0] am_C0 h o g Q T := by
  refine xo_10ne rfl (am_sp ?_ ?_ H)
  · intro hc1 H
    refine xo_44 rfl ?_
    exact H
  · intro hc1 H
    refine xo_2 rfl rfl ?_
    refine xo_1 rfl rfl ?_
    refine xo_14 rfl cf_64_44 ?_
    refine xo_0 rfl ?_
    refine xo_4 (lv' := [some (.ref 64), some (.int x1), some (.int x2), some (.int 0)]) rfl rfl rfl ?_
    exact H
theorem sm_185_82 {x1 : Int32} {x2 : Int32} {x3 : Int32} (H : (if (h 68 2) < x3 then Q none h o g else (if x3 < (h 68 2) then (am_ix (fn_183 x1 x3 0) 75 ∧ (if (h 88 ((fn_183 x1 x3 0).toNatClampNeg)) = 0 then (am_ix (fn_183 x1 x3 1) 75 ∧ (if (h 88 ((fn_183 x1 x3 1).toNatClampNeg)) = 0 then (am_ix (fn_183 x1 x3 2) 75 ∧ (if (h 88 ((fn_183 x1 x3 2).toNatClampNeg)) = 0 then am_X L xs (d + 2) 185 82 [some (.ref 64), some (.int x1), some (.int x2), some (.int (x3 + 1))] [] am_C0 h o g Q T else (am_ix x1 5 ∧ am_X L xs (d + 1) 185 0 [some (.ref 64), some (.int (x1 + 1)), some (.int (x2 + 1)), none] [] am_C0 (am_set h 89 x1.toNatClampNeg x3) o g (fun w h' o' g' => am_X L xs (d + 2) 185 145 [some (.ref 64), some (.int x1), some (.int x2), some (.int x3)] (w.toList ++ []) am_C0 h' o' g' Q T) T))) else (am_ix x1 5 ∧ am_X L xs (d + 1) 185 0 [some (.ref 64), some (.int (x1 + 1)), some (.int (x2 + 1)), none] [] am_C0 (am_set h 89 x1.toNatClampNeg x3) o g (fun w h' o' g' => am_X L xs (d + 2) 185 145 [some (.ref 64), some (.int x1), some (.int x2), some (.int x3)] (w.toList ++ []) am_C0 h' o' g' Q T) T))) else (am_ix x1 5 ∧ am_X L xs (d + 1) 185 0 [some (.ref 64), some (.int (x1 + 1)), some (.int (x2 + 1)), none] [] am_C0 (am_set h 89 x1.toNatClampNeg x3) o g (fun w h' o' g' => am_X L xs (d + 2) 185 145 [some (.ref 64), some (.int x1), some (.int x2), some (.int x3)] (w.toList ++ []) am_C0 h' o' g' Q T) T))) else (am_ix x1 5 ∧ am_X L xs (d + 1) 185 0 [some (.ref 64), some (.int (x1 + 1)), some (.int x2), none] [] am_C0 (am_set h 89 x1.toNatClampNeg x3) o g (fun w h' o' g' => am_X L xs (d + 2) 185 145 [some (.ref 64), some (.int x1), some (.int x2), some (.int x3)] (w.toList ++ []) am_C0 h' o' g' Q T) T)))) : am_X L xs (d + 2) 185 82 [some (.ref 64), some (.int x1), some (.int x2), some (.int x3)] [] am_C0 h o g Q T := by
  refine xo_1 rfl rfl ?_
  refine xo_2 rfl rfl ?_
  refine xo_13r rfl cr_64_4 ?_
  refine xo_0 rfl ?_
  refine xo_17 rfl ca_68 (am_ix.lit rfl) ?_
  refine xo_11gt rfl (am_sp ?_ ?_ H)
  · intro hc1 H
    refine xo_44 rfl ?_
    exact H
  · intro hc1 H
    refine xo_1 rfl rfl ?_
    refine xo_2 rfl rfl ?_
    refine xo_13r rfl cr_64_4 ?_
    refine xo_0 rfl ?_
    refine xo_17 rfl ca_68 (am_ix.lit rfl) ?_
    refine xo_11ge rfl (am_sp ?_ ?_ H)
    · intro hc2 H
      refine xo_2 rfl rfl ?_
      refine xo_1 rfl rfl ?_
      refine xo_1 rfl rfl ?_
      refine cl_188_64 rfl hd_185 rfl ?_
      refine xo_2 rfl rfl ?_
      refine xo_13r rfl cr_64_37 ?_
      refine xo_1 rfl rfl ?_
      refine xo_1 rfl rfl ?_
      refine xo_0 rfl ?_
      refine cl_183 rfl hd_188 rfl (sf_183 ?_)
      show am_X L xs (d + 1) 188 10 [some (.ref 64), some (.int x1), some (.int x3)] [.int (fn_183 x1 x3 0), .ref 88] am_C0 h o g (fun w h' o' g' => am_X L xs (d + 2) 185 108 [some (.ref 64), some (.int x1), some (.int x2), some (.int x3)] (w.toList ++ []) am_C0 h' o' g' Q T) T
      obtain ⟨hg3, H⟩ := H
      refine xo_18b rfl ca_88 hg3 ?_
      refine xo_10ne rfl (am_sp ?_ ?_ H)
      · intro hc4 H
        refine xo_2 rfl rfl ?_
        refine xo_13r rfl cr_64_37 ?_
        refine xo_1 rfl rfl ?_
        refine xo_1 rfl rfl ?_
        refine xo_0 rfl ?_
        refine cl_183 rfl hd_188 rfl (sf_183 ?_)
        show am_X L xs (d + 1) 188 24 [some (.ref 64), some (.int x1), some (.int x3)] [.int (fn_183 x1 x3 1), .ref 88] am_C0 h o g (fun w h' o' g' => am_X L xs (d + 2) 185 108 [some (.ref 64), some (.int x1), some (.int x2), some (.int x3)] (w.toList ++ []) am_C0 h' o' g' Q T) T
        obtain ⟨hg5, H⟩ := H
        refine xo_18b rfl ca_88 hg5 ?_
        refine xo_10ne rfl (am_sp ?_ ?_ H)
        · intro hc6 H
          refine xo_2 rfl rfl ?_
          refine xo_13r rfl cr_64_37 ?_
          refine xo_1 rfl rfl ?_
          refine xo_1 rfl rfl ?_
          refine xo_0 rfl ?_
          refine cl_183 rfl hd_188 rfl (sf_183 ?_)
          show am_X L xs (d + 1) 188 38 [some (.ref 64), some (.int x1), some (.int x3)] [.int (fn_183 x1 x3 2), .ref 88] am_C0 h o g (fun w h' o' g' => am_X L xs (d + 2) 185 108 [some (.ref 64), some (.int x1), some (.int x2), some (.int x3)] (w.toList ++ []) am_C0 h' o' g' Q T) T
          obtain ⟨hg7, H⟩ := H
          refine xo_18b rfl ca_88 hg7 ?_
          refine xo_10eq rfl (am_sp ?_ ?_ H)
          · intro hc8 H
            refine xo_0 rfl ?_
            refine xr_42 rfl rfl ?_
            refine xo_10n rfl (by decide) ?_
            refine xo_12 rfl ?_
            refine xo_9 (z := (x3 + 1)) (lv' := [some (.ref 64), some (.int x1), some (.int x2), some (.int (x3 + 1))]) rfl rfl rfl rfl rfl ?_
            refine xo_12 rfl ?_
            exact H
          · intro hc8 H
            refine xo_0 rfl ?_
            refine xo_12 rfl ?_
            refine xr_42 rfl rfl ?_
            refine xo_10 rfl (by decide) ?_
            refine xo_2 rfl rfl ?_
            refine xo_13r rfl cr_64_38 ?_
            refine xo_1 rfl rfl ?_
            refine xo_1 rfl rfl ?_
            obtain ⟨hg9, H⟩ := H
            refine xo_22 rfl ca_89 hg9 ?_
            refine xo_2 rfl rfl ?_
            refine xo_1 rfl rfl ?_
            refine xo_0 rfl ?_
            refine xo_7 rfl rfl ?_
            refine xo_1 rfl rfl ?_
            refine xo_2 rfl rfl ?_
            refine xo_13r rfl cr_64_4 ?_
            refine xo_0 rfl ?_
            refine xo_17 rfl ca_68 (am_ix.lit rfl) ?_
            refine xo_11ge rfl (am_ift hc2 ?_)
            refine xo_1 rfl rfl ?_
            refine xo_0 rfl ?_
            refine xo_7 rfl rfl ?_
            refine xo_12 rfl ?_
            refine cl_185_64 rfl hd_185 rfl ?_
            exact H
        · intro hc6 H
          refine xo_0 rfl ?_
          refine xo_12 rfl ?_
          refine xr_42 rfl rfl ?_
          refine xo_10 rfl (by decide) ?_
          refine xo_2 rfl rfl ?_
          refine xo_13r rfl cr_64_38 ?_
          refine xo_1 rfl rfl ?_
          refine xo_1 rfl rfl ?_
          obtain ⟨hg10, H⟩ := H
          refine xo_22 rfl ca_89 hg10 ?_
          refine xo_2 rfl rfl ?_
          refine xo_1 rfl rfl ?_
          refine xo_0 rfl ?_
          refine xo_7 rfl rfl ?_
          refine xo_1 rfl rfl ?_
          refine xo_2 rfl rfl ?_
          refine xo_13r rfl cr_64_4 ?_
          refine xo_0 rfl ?_
          refine xo_17 rfl ca_68 (am_ix.lit rfl) ?_
          refine xo_11ge rfl (am_ift hc2 ?_)
          refine xo_1 rfl rfl ?_
          refine xo_0 rfl ?_
          refine xo_7 rfl rfl ?_
          refine xo_12 rfl ?_
          refine cl_185_64 rfl hd_185 rfl ?_
          exact H
      · intro hc4 H
        refine xo_0 rfl ?_
        refine xo_12 rfl ?_
        refine xr_42 rfl rfl ?_
        refine xo_10 rfl (by decide) ?_
        refine xo_2 rfl rfl ?_
        refine xo_13r rfl cr_64_38 ?_
        refine xo_1 rfl rfl ?_
        refine xo_1 rfl rfl ?_
        obtain ⟨hg11, H⟩ := H
        refine xo_22 rfl ca_89 hg11 ?_
        refine xo_2 rfl rfl ?_
        refine xo_1 rfl rfl ?_
        refine xo_0 rfl ?_
        refine xo_7 rfl rfl ?_
        refine xo_1 rfl rfl ?_
        refine xo_2 rfl rfl ?_
        refine xo_13r rfl cr_64_4 ?_
        refine xo_0 rfl ?_
        refine xo_17 rfl ca_68 (am_ix.lit rfl) ?_
        refine xo_11ge rfl (am_ift hc2 ?_)
        refine xo_1 rfl rfl ?_
        refine xo_0 rfl ?_
        refine xo_7 rfl rfl ?_
        refine xo_12 rfl ?_
        refine cl_185_64 rfl hd_185 rfl ?_
        exact H
    · intro hc2 H
      refine xo_2 rfl rfl ?_
      refine xo_13r rfl cr_64_38 ?_
      refine xo_1 rfl rfl ?_
      refine xo_1 rfl rfl ?_
      obtain ⟨hg12, H⟩ := H
      refine xo_22 rfl ca_89 hg12 ?_
      refine xo_2 rfl rfl ?_
      refine xo_1 rfl rfl ?_
      refine xo_0 rfl ?_
      refine xo_7 rfl rfl ?_
      refine xo_1 rfl rfl ?_
      refine xo_2 rfl rfl ?_
      refine xo_13r rfl cr_64_4 ?_
      refine xo_0 rfl ?_
      refine xo_17 rfl ca_68 (am_ix.lit rfl) ?_
      refine xo_11ge rfl (am_iff hc2 ?_)
      refine xo_1 rfl rfl ?_
      refine cl_185_64 rfl hd_185 rfl ?_
      exact H
theorem sm_185_44 {x1 : Int32} {q2 : Option Value} {x3 : Int32} (hq2 : am_nl q2 = true) (H : (if x3 < x1 then (am_ix x3 5 ∧ am_X L xs d 185 44 [some (.ref 64), some (.int x1), q2, some (.int (x3 + 1))] [] am_C0 (am_set (am_set h 91 x3.toNatClampNeg (h 89 x3.toNatClampNeg)) 92 x3.toNatClampNeg (h 90 x3.toNatClampNeg)) o g Q T) else Q none h o g)) : am_X L xs d 185 44 [some (.ref 64), some (.int x1), q2, some (.int x3)] [] am_C0 h o g Q T := by
  refine xo_1 rfl rfl ?_
  refine xo_1 rfl rfl ?_
  refine xo_11ge rfl (am_sp ?_ ?_ H)
  · intro hc1 H
    refine xo_2 rfl rfl ?_
    refine xo_13r rfl cr_64_40 ?_
    refine xo_1 rfl rfl ?_
    refine xo_2 rfl rfl ?_
    refine xo_13r rfl cr_64_38 ?_
    refine xo_1 rfl rfl ?_
    obtain ⟨hg2, H⟩ := H
    refine xo_17 rfl ca_89 hg2 ?_
    refine xo_22 rfl ca_91 hg2 ?_
    refine xo_2 rfl rfl ?_
    refine xo_13r rfl cr_64_41 ?_
    refine xo_1 rfl rfl ?_
    refine xo_2 rfl rfl ?_
    refine xo_13r rfl cr_64_39 ?_
    refine xo_1 rfl rfl ?_
    refine xo_17 rfl ca_90 hg2 ?_
    refine xo_22 rfl ca_92 hg2 ?_
    refine xo_9 (z := (x3 + 1)) (lv' := [some (.ref 64), some (.int x1), q2, some (.int (x3 + 1))]) rfl rfl rfl hq2 rfl ?_
    refine xo_12 rfl ?_
    exact H
  · intro hc1 H
    refine xo_44 rfl ?_
    exact H
theorem sm_185_145 {x1 : Int32} {x2 : Int32} {x3 : Int32} (H : am_X L xs d 185 82 [some (.ref 64), some (.int x1), some (.int x2), some (.int (x3 + 1))] [] am_C0 h o g Q T) : am_X L xs d 185 145 [some (.ref 64), some (.int x1), some (.int x2), some (.int x3)] [] am_C0 h o g Q T := by
  refine xo_9 (z := (x3 + 1)) (lv' := [some (.ref 64), some (.int x1), some (.int x2), some (.int (x3 + 1))]) rfl rfl rfl rfl rfl ?_
  refine xo_12 rfl ?_
  exact H
theorem sm_186 {x1 : Int32} (H : (if x1 = (h 68 0) then Q (some (.int 1)) h o g else (am_ix x1 5 ∧ (if (h 89 x1.toNatClampNeg) = (h 68 2) then am_X L xs d 186 0 [some (.ref 64), some (.int (x1 + 1)), none, none, none] [] am_C0 (am_set h 90 x1.toNatClampNeg (-1)) o g (fun w h' o' g' => am_X L xs (d + 1) 186 41 [some (.ref 64), some (.int x1), none, none, none] (w.toList ++ []) am_C0 h' o' g' Q T) T else am_X L xs (d + 1) 186 44 [some (.ref 64), some (.int x1), some (.int 0), none, none] [] am_C0 h o g Q T)))) : am_X L xs (d + 1) 186 0 [some (.ref 64), some (.int x1), none, none, none] [] am_C0 h o g Q T := by
  refine xo_1 rfl rfl ?_
  refine xo_2 rfl rfl ?_
  refine xo_13r rfl cr_64_4 ?_
  refine xo_0 rfl ?_
  refine xo_17 rfl ca_68 (am_ix.lit rfl) ?_
  refine xo_11ne rfl (am_sp ?_ ?_ H)
  · intro hc1 H
    refine xo_0 rfl ?_
    refine xo_42 rfl rfl ?_
    exact H
  · intro hc1 H
    refine xo_2 rfl rfl ?_
    refine xo_13r rfl cr_64_38 ?_
    refine xo_1 rfl rfl ?_
    obtain ⟨hg2, H⟩ := H
    refine xo_17 rfl ca_89 hg2 ?_
    refine xo_2 rfl rfl ?_
    refine xo_13r rfl cr_64_4 ?_
    refine xo_0 rfl ?_
    refine xo_17 rfl ca_68 (am_ix.lit rfl) ?_
    refine xo_11ne rfl (am_sp ?_ ?_ H)
    · intro hc3 H
      refine xo_2 rfl rfl ?_
      refine xo_13r rfl cr_64_39 ?_
      refine xo_1 rfl rfl ?_
      refine xo_0 rfl ?_
      refine xo_22 rfl ca_90 hg2 ?_
      refine xo_2 rfl rfl ?_
      refine xo_1 rfl rfl ?_
      refine xo_0 rfl ?_
      refine xo_7 rfl rfl ?_
      refine cl_186_64 rfl hd_186 rfl ?_
      exact H
    · intro hc3 H
      refine xo_0 rfl ?_
      refine xo_4 (lv' := [some (.ref 64), some (.int x1), some (.int 0), none, none]) rfl rfl rfl ?_
      exact H
