/-! ===== what the methods do, piece by piece (written by wip/gen/gen_wp.py) ===== -/
variable {L : Nat} {xs : Nat → Int32} {d : Nat} {h : am_M} {o : am_L} {g : Nat} {Q : Option Value → am_M → am_L → Nat → Prop} {T : Nat → am_M → am_L → Nat → Prop}
theorem sm_30 {ws : Nat} {tx : List Int32} (hs : am_sx ws) (ht : am_txt (ws - am_big) = tx) (H : (if (h 1 7) = 1 then (if ((h 1 5) - (h 1 6)) = (Int32.ofNat tx.length) then am_X L xs d 30 28 [some (.ref 1), some (.ref ws), some (.int 0)] [] am_C0 h o g Q T else Q (some (.int 0)) h o g) else Q (some (.int 0)) h o g)) : am_X L xs d 30 0 [some (.ref 1), some (.ref ws), none] [] am_C0 h o g Q T := by
  refine xo_2 rfl rfl ?_
  refine xo_13 rfl cf_1_7 ?_
  refine xo_0 rfl ?_
  refine xo_11ne rfl (am_sp ?_ ?_ H)
  · intro hc1 H
    refine xo_2 rfl rfl ?_
    refine xo_13 rfl cf_1_5 ?_
    refine xo_2 rfl rfl ?_
    refine xo_13 rfl cf_1_6 ?_
    refine xo_7 rfl rfl ?_
    refine xo_2 rfl rfl ?_
    refine xo_49w rfl hs ht (Nat.le_of_ble_eq_true rfl) ?_
    refine xo_11eq rfl (am_sp ?_ ?_ H)
    · intro hc2 H
      refine xo_0 rfl ?_
      refine xo_4 (lv' := [some (.ref 1), some (.ref ws), some (.int 0)]) rfl rfl rfl ?_
      exact H
    · intro hc2 H
      refine xo_0 rfl ?_
      refine xo_42 rfl rfl ?_
      exact H
  · intro hc1 H
    refine xo_0 rfl ?_
    refine xo_42 rfl rfl ?_
    exact H
theorem sm_30_28 {x2 : Int32} {ws : Nat} {tx : List Int32} (hs : am_sx ws) (ht : am_txt (ws - am_big) = tx) (H : (if x2 < (Int32.ofNat tx.length) then (am_ix ((h 1 6) + x2) 500 ∧ (am_ix x2 tx.length ∧ (if (h 2 (((h 1 6) + x2).toNatClampNeg)) = (tx.getD x2.toNatClampNeg 0) then am_X L xs d 30 28 [some (.ref 1), some (.ref ws), some (.int (x2 + 1))] [] am_C0 h o g Q T else Q (some (.int 0)) h o g))) else Q (some (.int 1)) h o g)) : am_X L xs d 30 28 [some (.ref 1), some (.ref ws), some (.int x2)] [] am_C0 h o g Q T := by
  refine xo_1 rfl rfl ?_
  refine xo_2 rfl rfl ?_
  refine xo_49w rfl hs ht (Nat.le_of_ble_eq_true rfl) ?_
  refine xo_11ge rfl (am_sp ?_ ?_ H)
  · intro hc1 H
    refine xo_2 rfl rfl ?_
    refine xo_13r rfl cr_1_2 ?_
    refine xo_2 rfl rfl ?_
    refine xo_13 rfl cf_1_6 ?_
    refine xo_1 rfl rfl ?_
    refine xo_7 rfl rfl ?_
    obtain ⟨hg2, H⟩ := H
    refine xo_18 rfl ca_2 hg2 ?_
    refine xo_2 rfl rfl ?_
    refine xo_1 rfl rfl ?_
    obtain ⟨hg3, H⟩ := H
    refine xo_50w rfl hs ht hg3 (Nat.le_of_ble_eq_true rfl) ?_
    refine xo_11eq rfl (am_sp ?_ ?_ H)
    · intro hc4 H
      refine xo_9 (z := (x2 + 1)) (lv' := [some (.ref 1), some (.ref ws), some (.int (x2 + 1))]) rfl rfl rfl rfl rfl ?_
      refine xo_12 rfl ?_
      exact H
    · intro hc4 H
      refine xo_0 rfl ?_
      refine xo_42 rfl rfl ?_
      exact H
  · intro hc1 H
    refine xo_0 rfl ?_
    refine xo_42 rfl rfl ?_
    exact H
theorem sm_31 (H : (if (h 13 0) < 5 then am_X L xs d 33 0 [some (.ref 1), some (.int 0), some (.int 60), none] [] am_C0 h o g (fun w h' o' g' => am_X L xs (d + 1) 31 28 [some (.ref 1), some (.ref 13), some (.int (h 13 0))] (w.toList ++ [.int (h 13 0), .ref 14]) am_C0 h' o' g' Q T) T else (if (h 1 3) = 0 then Q none (am_set (am_set h 1 3 2) 1 1 (h 1 6)) o g else Q none h o g))) : am_X L xs (d + 1) 31 0 [some (.ref 1), some (.ref 13), none] [] am_C0 h o g Q T := by
  refine xo_2 rfl rfl ?_
  refine xo_13 rfl cf_13_0 ?_
  refine xo_4 (lv' := [some (.ref 1), some (.ref 13), some (.int (h 13 0))]) rfl rfl rfl ?_
  refine xo_1 rfl rfl ?_
  refine xo_0 rfl ?_
  refine xo_11lt rfl (am_sp ?_ ?_ H)
  · intro hc1 H
    refine xo_2 rfl rfl ?_
    refine xo_13r rfl cr_13_3 ?_
    refine xo_1 rfl rfl ?_
    refine xo_2 rfl rfl ?_
    refine xo_0 rfl ?_
    refine xo_0 rfl ?_
    refine cl_33_1 rfl hd_31 rfl ?_
    exact H
  · intro hc1 H
    refine xo_2 rfl rfl ?_
    refine xo_0 rfl ?_
    refine cl_32_1 rfl hd_31 rfl ?_
    refine xo_2 rfl rfl ?_
    refine xo_13 rfl cf_1_3 ?_
    refine xo_10ne rfl (am_sp ?_ ?_ H)
    · intro hc2 H
      refine xo_2 rfl rfl ?_
      refine xo_1 rfl rfl ?_
      refine xo_14 rfl cf_1_3 ?_
      refine xo_2 rfl rfl ?_
      refine xo_2 rfl rfl ?_
      refine xo_13 rfl cf_1_6 ?_
      refine xo_14 rfl cf_1_1 ?_
      refine xr_44 rfl ?_
      refine xo_44 rfl ?_
      exact H
    · intro hc2 H
      refine xr_44 rfl ?_
      refine xo_44 rfl ?_
      exact H
theorem sm_31_28 {x2 : Int32} {z1 : Int32} {z2 : Int32} (H : (am_ix z1 5 ∧ (am_ix x2 5 ∧ am_X L xs d 33 0 [some (.ref 1), some (.int ((am_set h 14 z1.toNatClampNeg z2) 14 x2.toNatClampNeg)), some (.int 60), none] [] am_C0 (am_set h 14 z1.toNatClampNeg z2) o g (fun w h' o' g' => am_X L xs (d + 1) 31 46 [some (.ref 1), some (.ref 13), some (.int x2)] (w.toList ++ [.int x2, .ref 15]) am_C0 h' o' g' Q T) T))) : am_X L xs (d + 1) 31 28 [some (.ref 1), some (.ref 13), some (.int x2)] [.int z2, .int z1, .ref 14] am_C0 h o g Q T := by
  obtain ⟨hg1, H⟩ := H
  refine xo_22 rfl ca_14 hg1 ?_
  refine xo_2 rfl rfl ?_
  refine xo_13r rfl cr_13_4 ?_
  refine xo_1 rfl rfl ?_
  refine xo_2 rfl rfl ?_
  refine xo_2 rfl rfl ?_
  refine xo_13r rfl cr_13_3 ?_
  refine xo_1 rfl rfl ?_
  obtain ⟨hg2, H⟩ := H
  refine xo_17 rfl ca_14 hg2 ?_
  refine xo_0 rfl ?_
  refine cl_33_1 rfl hd_31 rfl ?_
  exact H
theorem sm_31_46 {x2 : Int32} {z1 : Int32} {z2 : Int32} (H : (am_ix z1 5 ∧ am_X L xs d 33 0 [some (.ref 1), some (.int 0), some (.int 23), none] [] am_C0 (am_set h 15 z1.toNatClampNeg z2) o g (fun w h' o' g' => am_X L xs (d + 1) 31 59 [some (.ref 1), some (.ref 13), some (.int x2)] (w.toList ++ [.int x2, .ref 16]) am_C0 h' o' g' Q T) T)) : am_X L xs (d + 1) 31 46 [some (.ref 1), some (.ref 13), some (.int x2)] [.int z2, .int z1, .ref 15] am_C0 h o g Q T := by
  obtain ⟨hg1, H⟩ := H
  refine xo_22 rfl ca_15 hg1 ?_
  refine xo_2 rfl rfl ?_
  refine xo_13r rfl cr_13_5 ?_
  refine xo_1 rfl rfl ?_
  refine xo_2 rfl rfl ?_
  refine xo_0 rfl ?_
  refine xo_0 rfl ?_
  refine cl_33_1 rfl hd_31 rfl ?_
  exact H
theorem sm_31_59 {x2 : Int32} {z1 : Int32} {z2 : Int32} (H : (am_ix z1 5 ∧ am_X L xs d 33 0 [some (.ref 1), some (.int 1), some (.int 12), none] [] am_C0 (am_set h 16 z1.toNatClampNeg z2) o g (fun w h' o' g' => am_X L xs (d + 1) 31 72 [some (.ref 1), some (.ref 13), some (.int x2)] (w.toList ++ [.int x2, .ref 17]) am_C0 h' o' g' Q T) T)) : am_X L xs (d + 1) 31 59 [some (.ref 1), some (.ref 13), some (.int x2)] [.int z2, .int z1, .ref 16] am_C0 h o g Q T := by
  obtain ⟨hg1, H⟩ := H
  refine xo_22 rfl ca_16 hg1 ?_
  refine xo_2 rfl rfl ?_
  refine xo_13r rfl cr_13_6 ?_
  refine xo_1 rfl rfl ?_
  refine xo_2 rfl rfl ?_
  refine xo_0 rfl ?_
  refine xo_0 rfl ?_
  refine cl_33_1 rfl hd_31 rfl ?_
  exact H
theorem sm_31_72 {x2 : Int32} {z1 : Int32} {z2 : Int32} (H : (am_ix z1 5 ∧ am_X L xs d 27 0 [some (.ref 1)] [] am_C0 (am_set h 17 z1.toNatClampNeg z2) o g (fun w h' o' g' => am_X L xs (d + 1) 31 77 [some (.ref 1), some (.ref 13), some (.int x2)] (w.toList ++ []) am_C0 h' o' g' Q T) T)) : am_X L xs (d + 1) 31 72 [some (.ref 1), some (.ref 13), some (.int x2)] [.int z2, .int z1, .ref 17] am_C0 h o g Q T := by
  obtain ⟨hg1, H⟩ := H
  refine xo_22 rfl ca_17 hg1 ?_
  refine xo_2 rfl rfl ?_
  refine cl_27_1 rfl hd_31 rfl ?_
  exact H
theorem sm_31_77 {x2 : Int32} (H : (am_ix x2 5 ∧ am_X L xs d 30 0 [some (.ref 1), some (.ref 1000001), none] [] am_C0 (am_set h 18 x2.toNatClampNeg 0) o g (fun w h' o' g' => am_X L xs (d + 1) 31 90 [some (.ref 1), some (.ref 13), some (.int x2)] (w.toList ++ []) am_C0 h' o' g' Q T) T)) : am_X L xs (d + 1) 31 77 [some (.ref 1), some (.ref 13), some (.int x2)] [] am_C0 h o g Q T := by
  refine xo_2 rfl rfl ?_
  refine xo_13r rfl cr_13_7 ?_
  refine xo_1 rfl rfl ?_
  refine xo_0 rfl ?_
  obtain ⟨hg1, H⟩ := H
  refine xo_22 rfl ca_18 hg1 ?_
  refine xo_2 rfl rfl ?_
  refine xo_46 (k := 1000001) rfl rfl ?_
  refine cl_30_s rfl hd_31 rfl ?_
  exact H
theorem sm_31_90 {x2 : Int32} {z0 : Int32} (H : (if z0 = 0 then Q none (am_set h 13 0 ((h 13 0) + 1)) o g else am_X L xs d 33 0 [some (.ref 1), some (.int 0), some (.int 9), none] [] am_C0 h o g (fun w h' o' g' => am_X L xs (d + 1) 31 105 [some (.ref 1), some (.ref 13), some (.int x2)] (w.toList ++ [.int x2, .ref 18]) am_C0 h' o' g' Q T) T)) : am_X L xs (d + 1) 31 90 [some (.ref 1), some (.ref 13), some (.int x2)] [.int z0] am_C0 h o g Q T := by
  refine xo_10eq rfl (am_sp ?_ ?_ H)
  · intro hc1 H
    refine xo_2 rfl rfl ?_
    refine xo_28 rfl rfl ?_
    refine xo_13 rfl cf_13_0 ?_
    refine xo_0 rfl ?_
    refine xo_7 rfl rfl ?_
    refine xo_14 rfl cf_13_0 ?_
    refine xo_44 rfl ?_
    exact H
  · intro hc1 H
    refine xo_2 rfl rfl ?_
    refine xo_13r rfl cr_13_7 ?_
    refine xo_1 rfl rfl ?_
    refine xo_2 rfl rfl ?_
    refine xo_0 rfl ?_
    refine xo_0 rfl ?_
    refine cl_33_1 rfl hd_31 rfl ?_
    exact H
theorem sm_31_105 {q2 : Option Value} {z1 : Int32} {z2 : Int32} (hq2 : am_nl q2 = true) (H : (am_ix z1 5 ∧ am_X L xs d 27 0 [some (.ref 1)] [] am_C0 (am_set h 18 z1.toNatClampNeg z2) o g (fun w h' o' g' => am_X L xs (d + 1) 31 110 [some (.ref 1), some (.ref 13), q2] (w.toList ++ []) am_C0 h' o' g' Q T) T)) : am_X L xs (d + 1) 31 105 [some (.ref 1), some (.ref 13), q2] [.int z2, .int z1, .ref 18] am_C0 h o g Q T := by
  obtain ⟨hg1, H⟩ := H
  refine xo_22 rfl ca_18 hg1 ?_
  refine xo_2 rfl rfl ?_
  refine cl_27_1 rfl hd_31 rfl ?_
  exact H
theorem sm_31_110 {q0 : Option Value} {q2 : Option Value} (hq0 : am_nl q0 = true) (hq2 : am_nl q2 = true) (H : Q none (am_set h 13 0 ((h 13 0) + 1)) o g) : am_X L xs d 31 110 [q0, some (.ref 13), q2] [] am_C0 h o g Q T := by
  refine xo_2 rfl rfl ?_
  refine xo_28 rfl rfl ?_
  refine xo_13 rfl cf_13_0 ?_
  refine xo_0 rfl ?_
  refine xo_7 rfl rfl ?_
  refine xo_14 rfl cf_13_0 ?_
  refine xo_44 rfl ?_
  exact H
theorem sm_33 {x1 : Int32} {x2 : Int32} (H : am_X L xs d 27 0 [some (.ref 1)] [] am_C0 h o g (fun w h' o' g' => am_X L xs (d + 1) 33 4 [some (.ref 1), some (.int x1), some (.int x2), none] (w.toList ++ []) am_C0 h' o' g' Q T) T) : am_X L xs (d + 1) 33 0 [some (.ref 1), some (.int x1), some (.int x2), none] [] am_C0 h o g Q T := by
  refine xo_2 rfl rfl ?_
  refine cl_27_1 rfl hd_33 rfl ?_
  exact H
theorem sm_33_4 {x1 : Int32} {x2 : Int32} {q3 : Option Value} (hq3 : am_nl q3 = true) (H : (if (h 1 7) = 2 then am_X L xs d 34 0 [some (.ref 1), none, none] [] am_C0 h o g (fun w h' o' g' => am_X L xs (d + 1) 33 23 [some (.ref 1), some (.int x1), some (.int x2), q3] (w.toList ++ []) am_C0 h' o' g' Q T) T else (if (h 1 3) = 0 then Q (some (.int x1)) (am_set (am_set h 1 3 1) 1 1 (h 1 6)) o g else Q (some (.int x1)) h o g))) : am_X L xs (d + 1) 33 4 [some (.ref 1), some (.int x1), some (.int x2), q3] [] am_C0 h o g Q T := by
  refine xo_2 rfl rfl ?_
  refine xo_13 rfl cf_1_7 ?_
  refine xo_0 rfl ?_
  refine xo_11eq rfl (am_sp ?_ ?_ H)
  · intro hc1 H
    refine xo_2 rfl rfl ?_
    refine cl_34_1 rfl hd_33 rfl ?_
    exact H
  · intro hc1 H
    refine xo_2 rfl rfl ?_
    refine xo_0 rfl ?_
    refine cl_32_1 rfl hd_33 rfl ?_
    refine xo_2 rfl rfl ?_
    refine xo_13 rfl cf_1_3 ?_
    refine xo_10ne rfl (am_sp ?_ ?_ H)
    · intro hc2 H
      refine xo_2 rfl rfl ?_
      refine xo_1 rfl rfl ?_
      refine xo_14 rfl cf_1_3 ?_
      refine xo_2 rfl rfl ?_
      refine xo_2 rfl rfl ?_
      refine xo_13 rfl cf_1_6 ?_
      refine xo_14 rfl cf_1_1 ?_
      refine xr_44 rfl ?_
      refine xo_1 rfl rfl ?_
      refine xo_41 rfl ?_
      exact H
    · intro hc2 H
      refine xr_44 rfl ?_
      refine xo_1 rfl rfl ?_
      refine xo_41 rfl ?_
      exact H
theorem sm_33_23 {x1 : Int32} {x2 : Int32} {q3 : Option Value} {z0 : Int32} (hq3 : am_nl q3 = true) (H : (if 3 < ((h 1 5) - (h 1 6)) then (if (h 1 3) = 0 then Q (some (.int x1)) (am_set (am_set h 1 3 2) 1 1 (h 1 6)) o g else Q (some (.int x1)) h o g) else (if z0 < x1 then (if (h 1 3) = 0 then Q (some (.int x1)) (am_set (am_set h 1 3 2) 1 1 (h 1 6)) o g else Q (some (.int x1)) h o g) else (if x2 < z0 then (if (h 1 3) = 0 then Q (some (.int x1)) (am_set (am_set h 1 3 2) 1 1 (h 1 6)) o g else Q (some (.int x1)) h o g) else Q (some (.int z0)) h o g)))) : am_X L xs (d + 1) 33 23 [some (.ref 1), some (.int x1), some (.int x2), q3] [.int z0] am_C0 h o g Q T := by
  refine xo_4 (lv' := [some (.ref 1), some (.int x1), some (.int x2), some (.int z0)]) rfl rfl rfl ?_
  refine xo_2 rfl rfl ?_
  refine xo_13 rfl cf_1_5 ?_
  refine xo_2 rfl rfl ?_
  refine xo_13 rfl cf_1_6 ?_
  refine xo_7 rfl rfl ?_
  refine xo_0 rfl ?_
  refine xo_11gt rfl (am_sp ?_ ?_ H)
  · intro hc1 H
    refine xo_2 rfl rfl ?_
    refine xo_0 rfl ?_
    refine cl_32_1 rfl hd_33 rfl ?_
    refine xo_2 rfl rfl ?_
    refine xo_13 rfl cf_1_3 ?_
    refine xo_10ne rfl (am_sp ?_ ?_ H)
    · intro hc2 H
      refine xo_2 rfl rfl ?_
      refine xo_1 rfl rfl ?_
      refine xo_14 rfl cf_1_3 ?_
      refine xo_2 rfl rfl ?_
      refine xo_2 rfl rfl ?_
      refine xo_13 rfl cf_1_6 ?_
      refine xo_14 rfl cf_1_1 ?_
      refine xr_44 rfl ?_
      refine xo_1 rfl rfl ?_
      refine xo_41 rfl ?_
      exact H
    · intro hc2 H
      refine xr_44 rfl ?_
      refine xo_1 rfl rfl ?_
      refine xo_41 rfl ?_
      exact H
  · intro hc1 H
    refine xo_1 rfl rfl ?_
    refine xo_1 rfl rfl ?_
    refine xo_11lt rfl (am_sp ?_ ?_ H)
    · intro hc3 H
      refine xo_2 rfl rfl ?_
      refine xo_0 rfl ?_
      refine cl_32_1 rfl hd_33 rfl ?_
      refine xo_2 rfl rfl ?_
      refine xo_13 rfl cf_1_3 ?_
      refine xo_10ne rfl (am_sp ?_ ?_ H)
      · intro hc4 H
        refine xo_2 rfl rfl ?_
        refine xo_1 rfl rfl ?_
        refine xo_14 rfl cf_1_3 ?_
        refine xo_2 rfl rfl ?_
        refine xo_2 rfl rfl ?_
        refine xo_13 rfl cf_1_6 ?_
        refine xo_14 rfl cf_1_1 ?_
        refine xr_44 rfl ?_
        refine xo_1 rfl rfl ?_
        refine xo_41 rfl ?_
        exact H
      · intro hc4 H
        refine xr_44 rfl ?_
        refine xo_1 rfl rfl ?_
        refine xo_41 rfl ?_
        exact H
    · intro hc3 H
      refine xo_1 rfl rfl ?_
      refine xo_1 rfl rfl ?_
      refine xo_11le rfl (am_sp ?_ ?_ H)
      · intro hc5 H
        refine xo_2 rfl rfl ?_
        refine xo_0 rfl ?_
        refine cl_32_1 rfl hd_33 rfl ?_
        refine xo_2 rfl rfl ?_
        refine xo_13 rfl cf_1_3 ?_
        refine xo_10ne rfl (am_sp ?_ ?_ H)
        · intro hc6 H
          refine xo_2 rfl rfl ?_
          refine xo_1 rfl rfl ?_
          refine xo_14 rfl cf_1_3 ?_
          refine xo_2 rfl rfl ?_
          refine xo_2 rfl rfl ?_
          refine xo_13 rfl cf_1_6 ?_
          refine xo_14 rfl cf_1_1 ?_
          refine xr_44 rfl ?_
          refine xo_1 rfl rfl ?_
          refine xo_41 rfl ?_
          exact H
        · intro hc6 H
          refine xr_44 rfl ?_
          refine xo_1 rfl rfl ?_
          refine xo_41 rfl ?_
          exact H
      · intro hc5 H
        refine xo_1 rfl rfl ?_
        refine xo_41 rfl ?_
        exact H
theorem sm_34 (H : am_X L xs d 34 7 [some (.ref 1), some (.int 0), some (.int (h 1 6))] [] am_C0 h o g Q T) : am_X L xs d 34 0 [some (.ref 1), none, none] [] am_C0 h o g Q T := by
  refine xo_0 rfl ?_
  refine xo_4 (lv' := [some (.ref 1), some (.int 0), none]) rfl rfl rfl ?_
  refine xo_2 rfl rfl ?_
  refine xo_13 rfl cf_1_6 ?_
  refine xo_4 (lv' := [some (.ref 1), some (.int 0), some (.int (h 1 6))]) rfl rfl rfl ?_
  exact H
theorem sm_34_7 {x1 : Int32} {x2 : Int32} (H : (if x2 < (h 1 5) then (if x2 < ((h 1 6) + 3) then (am_ix x2 500 ∧ am_X L xs d 34 7 [some (.ref 1), some (.int (((10 * x1) + (h 2 x2.toNatClampNeg)) - 48)), some (.int (x2 + 1))] [] am_C0 h o g Q T) else Q (some (.int x1)) h o g) else Q (some (.int x1)) h o g)) : am_X L xs d 34 7 [some (.ref 1), some (.int x1), some (.int x2)] [] am_C0 h o g Q T := by
  refine xo_1 rfl rfl ?_
  refine xo_2 rfl rfl ?_
  refine xo_13 rfl cf_1_5 ?_
  refine xo_11ge rfl (am_sp ?_ ?_ H)
  · intro hc1 H
    refine xo_1 rfl rfl ?_
    refine xo_2 rfl rfl ?_
    refine xo_13 rfl cf_1_6 ?_
    refine xo_0 rfl ?_
    refine xo_7 rfl rfl ?_
    refine xo_11ge rfl (am_sp ?_ ?_ H)
    · intro hc2 H
      refine xo_0 rfl ?_
      refine xo_1 rfl rfl ?_
      refine xo_7 rfl rfl ?_
      refine xo_2 rfl rfl ?_
      refine xo_13r rfl cr_1_2 ?_
      refine xo_1 rfl rfl ?_
      obtain ⟨hg3, H⟩ := H
      refine xo_18 rfl ca_2 hg3 ?_
      refine xo_7 rfl rfl ?_
      refine xo_0 rfl ?_
      refine xo_7 rfl rfl ?_
      refine xo_4 (lv' := [some (.ref 1), some (.int (((10 * x1) + (h 2 x2.toNatClampNeg)) - 48)), some (.int x2)]) rfl rfl rfl ?_
      refine xo_9 (z := (x2 + 1)) (lv' := [some (.ref 1), some (.int (((10 * x1) + (h 2 x2.toNatClampNeg)) - 48)), some (.int (x2 + 1))]) rfl rfl rfl rfl rfl ?_
      refine xo_12 rfl ?_
      exact H
    · intro hc2 H
      refine xo_1 rfl rfl ?_
      refine xo_41 rfl ?_
      exact H
  · intro hc1 H
    refine xo_1 rfl rfl ?_
    refine xo_41 rfl ?_
    exact H
theorem sm_35 (H : (if (h 13 1) < 4 then am_X L xs d 27 0 [some (.ref 1)] [] am_C0 (am_set h 13 1 ((h 13 1) + 1)) o g (fun w h' o' g' => am_X L xs (d + 1) 35 28 [some (.ref 1), some (.ref 13)] (w.toList ++ []) am_C0 h' o' g' Q T) T else (if (h 1 3) = 0 then Q none (am_set (am_set h 1 3 2) 1 1 (h 1 6)) o g else Q none h o g))) : am_X L xs (d + 1) 35 0 [some (.ref 1), some (.ref 13)] [] am_C0 h o g Q T := by
  refine xo_2 rfl rfl ?_
  refine xo_13 rfl cf_13_1 ?_
  refine xo_0 rfl ?_
  refine xo_11lt rfl (am_sp ?_ ?_ H)
  · intro hc1 H
    refine xo_2 rfl rfl ?_
    refine xo_28 rfl rfl ?_
    refine xo_13 rfl cf_13_1 ?_
    refine xo_0 rfl ?_
    refine xo_7 rfl rfl ?_
    refine xo_14 rfl cf_13_1 ?_
    refine xo_2 rfl rfl ?_
    refine cl_27_1 rfl hd_35 rfl ?_
    exact H
  · intro hc1 H
    refine xo_2 rfl rfl ?_
    refine xo_0 rfl ?_
    refine cl_32_1 rfl hd_35 rfl ?_
    refine xo_2 rfl rfl ?_
    refine xo_13 rfl cf_1_3 ?_
    refine xo_10ne rfl (am_sp ?_ ?_ H)
    · intro hc2 H
      refine xo_2 rfl rfl ?_
      refine xo_1 rfl rfl ?_
      refine xo_14 rfl cf_1_3 ?_
      refine xo_2 rfl rfl ?_
      refine xo_2 rfl rfl ?_
      refine xo_13 rfl cf_1_6 ?_
      refine xo_14 rfl cf_1_1 ?_
      refine xr_44 rfl ?_
      refine xo_44 rfl ?_
      exact H
    · intro hc2 H
      refine xr_44 rfl ?_
      refine xo_44 rfl ?_
      exact H
theorem sm_35_28 {q0 : Option Value} {q1 : Option Value} (hq0 : am_nl q0 = true) (hq1 : am_nl q1 = true) (H : Q none h o g) : am_X L xs d 35 28 [q0, q1] [] am_C0 h o g Q T := by
  refine xo_44 rfl ?_
  exact H
theorem sm_36 {x2 : Int32} (H : (if (h 13 2) < 5 then (am_ix (h 13 2) 5 ∧ am_X L xs d 33 0 [some (.ref 1), some (.int 0), some (.int 99), none] [] am_C0 (am_set h 19 ((h 13 2).toNatClampNeg) x2) o g (fun w h' o' g' => am_X L xs (d + 1) 36 35 [some (.ref 1), some (.ref 13), some (.int x2), some (.int (h 13 2))] (w.toList ++ [.int (h 13 2), .ref 20]) am_C0 h' o' g' Q T) T) else (if (h 1 3) = 0 then Q none (am_set (am_set h 1 3 2) 1 1 (h 1 6)) o g else Q none h o g))) : am_X L xs (d + 1) 36 0 [some (.ref 1), some (.ref 13), some (.int x2), none] [] am_C0 h o g Q T := by
  refine xo_2 rfl rfl ?_
  refine xo_13 rfl cf_13_2 ?_
  refine xo_4 (lv' := [some (.ref 1), some (.ref 13), some (.int x2), some (.int (h 13 2))]) rfl rfl rfl ?_
  refine xo_1 rfl rfl ?_
  refine xo_0 rfl ?_
  refine xo_11lt rfl (am_sp ?_ ?_ H)
  · intro hc1 H
    refine xo_2 rfl rfl ?_
    refine xo_13r rfl cr_13_8 ?_
    refine xo_1 rfl rfl ?_
    refine xo_1 rfl rfl ?_
    obtain ⟨hg2, H⟩ := H
    refine xo_22 rfl ca_19 hg2 ?_
    refine xo_2 rfl rfl ?_
    refine xo_13r rfl cr_13_9 ?_
    refine xo_1 rfl rfl ?_
    refine xo_2 rfl rfl ?_
    refine xo_0 rfl ?_
    refine xo_0 rfl ?_
    refine cl_33_1 rfl hd_36 rfl ?_
    exact H
  · intro hc1 H
    refine xo_2 rfl rfl ?_
    refine xo_0 rfl ?_
    refine cl_32_1 rfl hd_36 rfl ?_
    refine xo_2 rfl rfl ?_
    refine xo_13 rfl cf_1_3 ?_
    refine xo_10ne rfl (am_sp ?_ ?_ H)
    · intro hc3 H
      refine xo_2 rfl rfl ?_
      refine xo_1 rfl rfl ?_
      refine xo_14 rfl cf_1_3 ?_
      refine xo_2 rfl rfl ?_
      refine xo_2 rfl rfl ?_
      refine xo_13 rfl cf_1_6 ?_
      refine xo_14 rfl cf_1_1 ?_
      refine xr_44 rfl ?_
      refine xo_44 rfl ?_
      exact H
    · intro hc3 H
      refine xr_44 rfl ?_
      refine xo_44 rfl ?_
      exact H
theorem sm_36_35 {q2 : Option Value} {x3 : Int32} {z1 : Int32} {z2 : Int32} (hq2 : am_nl q2 = true) (H : (am_ix z1 5 ∧ am_X L xs d 27 0 [some (.ref 1)] [] am_C0 (am_set h 20 z1.toNatClampNeg z2) o g (fun w h' o' g' => am_X L xs (d + 1) 36 40 [some (.ref 1), some (.ref 13), q2, some (.int x3)] (w.toList ++ []) am_C0 h' o' g' Q T) T)) : am_X L xs (d + 1) 36 35 [some (.ref 1), some (.ref 13), q2, some (.int x3)] [.int z2, .int z1, .ref 20] am_C0 h o g Q T := by
  obtain ⟨hg1, H⟩ := H
  refine xo_22 rfl ca_20 hg1 ?_
  refine xo_2 rfl rfl ?_
  refine cl_27_1 rfl hd_36 rfl ?_
  exact H
theorem sm_36_40 {q2 : Option Value} {x3 : Int32} (hq2 : am_nl q2 = true) (H : (am_ix x3 5 ∧ am_X L xs d 30 0 [some (.ref 1), some (.ref 1000004), none] [] am_C0 (am_set h 21 x3.toNatClampNeg 0) o g (fun w h' o' g' => am_X L xs (d + 1) 36 53 [some (.ref 1), some (.ref 13), q2, some (.int x3)] (w.toList ++ []) am_C0 h' o' g' Q T) T)) : am_X L xs (d + 1) 36 40 [some (.ref 1), some (.ref 13), q2, some (.int x3)] [] am_C0 h o g Q T := by
  refine xo_2 rfl rfl ?_
  refine xo_13r rfl cr_13_10 ?_
  refine xo_1 rfl rfl ?_
  refine xo_0 rfl ?_
  obtain ⟨hg1, H⟩ := H
  refine xo_22 rfl ca_21 hg1 ?_
  refine xo_2 rfl rfl ?_
  refine xo_46 (k := 1000004) rfl rfl ?_
  refine cl_30_s rfl hd_36 rfl ?_
  exact H
theorem sm_36_53 {q2 : Option Value} {x3 : Int32} {z0 : Int32} (hq2 : am_nl q2 = true) (H : (if z0 = 0 then Q none (am_set h 13 2 ((h 13 2) + 1)) o g else am_X L xs d 33 0 [some (.ref 1), some (.int 0), some (.int 9), none] [] am_C0 h o g (fun w h' o' g' => am_X L xs (d + 1) 36 68 [some (.ref 1), some (.ref 13), q2, some (.int x3)] (w.toList ++ [.int x3, .ref 21]) am_C0 h' o' g' Q T) T)) : am_X L xs (d + 1) 36 53 [some (.ref 1), some (.ref 13), q2, some (.int x3)] [.int z0] am_C0 h o g Q T := by
  refine xo_10eq rfl (am_sp ?_ ?_ H)
  · intro hc1 H
    refine xo_2 rfl rfl ?_
    refine xo_28 rfl rfl ?_
    refine xo_13 rfl cf_13_2 ?_
    refine xo_0 rfl ?_
    refine xo_7 rfl rfl ?_
    refine xo_14 rfl cf_13_2 ?_
    refine xo_44 rfl ?_
    exact H
  · intro hc1 H
    refine xo_2 rfl rfl ?_
    refine xo_13r rfl cr_13_10 ?_
    refine xo_1 rfl rfl ?_
    refine xo_2 rfl rfl ?_
    refine xo_0 rfl ?_
    refine xo_0 rfl ?_
    refine cl_33_1 rfl hd_36 rfl ?_
    exact H
theorem sm_36_68 {q2 : Option Value} {q3 : Option Value} {z1 : Int32} {z2 : Int32} (hq2 : am_nl q2 = true) (hq3 : am_nl q3 = true) (H : (am_ix z1 5 ∧ am_X L xs d 27 0 [some (.ref 1)] [] am_C0 (am_set h 21 z1.toNatClampNeg z2) o g (fun w h' o' g' => am_X L xs (d + 1) 36 73 [some (.ref 1), some (.ref 13), q2, q3] (w.toList ++ []) am_C0 h' o' g' Q T) T)) : am_X L xs (d + 1) 36 68 [some (.ref 1), some (.ref 13), q2, q3] [.int z2, .int z1, .ref 21] am_C0 h o g Q T := by
  obtain ⟨hg1, H⟩ := H
  refine xo_22 rfl ca_21 hg1 ?_
  refine xo_2 rfl rfl ?_
  refine cl_27_1 rfl hd_36 rfl ?_
  exact H
theorem sm_36_73 {q0 : Option Value} {q2 : Option Value} {q3 : Option Value} (hq0 : am_nl q0 = true) (hq2 : am_nl q2 = true) (hq3 : am_nl q3 = true) (H : Q none (am_set h 13 2 ((h 13 2) + 1)) o g) : am_X L xs d 36 73 [q0, some (.ref 13), q2, q3] [] am_C0 h o g Q T := by
  refine xo_2 rfl rfl ?_
  refine xo_28 rfl rfl ?_
  refine xo_13 rfl cf_13_2 ?_
  refine xo_0 rfl ?_
  refine xo_7 rfl rfl ?_
  refine xo_14 rfl cf_13_2 ?_
  refine xo_44 rfl ?_
  exact H
theorem sm_37 {x2 : Int32} {x3 : Int32} (H : (if ((h 1 8) &&& (1 <<< (x2 &&& 31))) = 0 then am_X L xs d 33 0 [some (.ref 1), some (.int 0), some (.int x3), none] [] am_C0 (am_set h 1 8 ((h 1 8) ||| (1 <<< (x2 &&& 31)))) o g (fun w h' o' g' => am_X L xs (d + 1) 37 43 [some (.ref 1), some (.ref 13), some (.int x2), some (.int x3), some (.int (1 <<< (x2 &&& 31)))] (w.toList ++ [.int x2, .ref 22]) am_C0 h' o' g' Q T) T else (if (h 1 3) = 0 then Q none (am_set (am_set h 1 3 3) 1 1 (h 1 6)) o g else Q none h o g))) : am_X L xs (d + 1) 37 0 [some (.ref 1), some (.ref 13), some (.int x2), some (.int x3), none] [] am_C0 h o g Q T := by
  refine xo_0 rfl ?_
  refine xo_1 rfl rfl ?_
  refine xo_7 rfl rfl ?_
  refine xo_4 (lv' := [some (.ref 1), some (.ref 13), some (.int x2), some (.int x3), some (.int (1 <<< (x2 &&& 31)))]) rfl rfl rfl ?_
  refine xo_2 rfl rfl ?_
  refine xo_13 rfl cf_1_8 ?_
  refine xo_1 rfl rfl ?_
  refine xo_7 rfl rfl ?_
  refine xo_10eq rfl (am_sp ?_ ?_ H)
  · intro hc1 H
    refine xo_2 rfl rfl ?_
    refine xo_28 rfl rfl ?_
    refine xo_13 rfl cf_1_8 ?_
    refine xo_1 rfl rfl ?_
    refine xo_7 rfl rfl ?_
    refine xo_14 rfl cf_1_8 ?_
    refine xo_2 rfl rfl ?_
    refine xo_13r rfl cr_13_11 ?_
    refine xo_1 rfl rfl ?_
    refine xo_2 rfl rfl ?_
    refine xo_0 rfl ?_
    refine xo_1 rfl rfl ?_
    refine cl_33_1 rfl hd_37 rfl ?_
    exact H
  · intro hc1 H
    refine xo_2 rfl rfl ?_
    refine xo_0 rfl ?_
    refine cl_32_1 rfl hd_37 rfl ?_
    refine xo_2 rfl rfl ?_
    refine xo_13 rfl cf_1_3 ?_
    refine xo_10ne rfl (am_sp ?_ ?_ H)
    · intro hc2 H
      refine xo_2 rfl rfl ?_
      refine xo_1 rfl rfl ?_
      refine xo_14 rfl cf_1_3 ?_
      refine xo_2 rfl rfl ?_
      refine xo_2 rfl rfl ?_
      refine xo_13 rfl cf_1_6 ?_
      refine xo_14 rfl cf_1_1 ?_
      refine xr_44 rfl ?_
      refine xo_44 rfl ?_
      exact H
    · intro hc2 H
      refine xr_44 rfl ?_
      refine xo_44 rfl ?_
      exact H
theorem sm_37_43 {q1 : Option Value} {q2 : Option Value} {q3 : Option Value} {q4 : Option Value} {z1 : Int32} {z2 : Int32} (hq1 : am_nl q1 = true) (hq2 : am_nl q2 = true) (hq3 : am_nl q3 = true) (hq4 : am_nl q4 = true) (H : (am_ix z1 4 ∧ am_X L xs d 27 0 [some (.ref 1)] [] am_C0 (am_set h 22 z1.toNatClampNeg z2) o g (fun w h' o' g' => am_X L xs (d + 1) 37 48 [some (.ref 1), q1, q2, q3, q4] (w.toList ++ []) am_C0 h' o' g' Q T) T)) : am_X L xs (d + 1) 37 43 [some (.ref 1), q1, q2, q3, q4] [.int z2, .int z1, .ref 22] am_C0 h o g Q T := by
  obtain ⟨hg1, H⟩ := H
  refine xo_22 rfl ca_22 hg1 ?_
  refine xo_2 rfl rfl ?_
  refine cl_27_1 rfl hd_37 rfl ?_
  exact H
theorem sm_37_48 {q0 : Option Value} {q1 : Option Value} {q2 : Option Value} {q3 : Option Value} {q4 : Option Value} (hq0 : am_nl q0 = true) (hq1 : am_nl q1 = true) (hq2 : am_nl q2 = true) (hq3 : am_nl q3 = true) (hq4 : am_nl q4 = true) (H : Q none h o g) : am_X L xs d 37 48 [q0, q1, q2, q3, q4] [] am_C0 h o g Q T := by
  refine xo_44 rfl ?_
  exact H
theorem wr_41 {x1 : Int32} (H : am_X L xs d 42 0 [some (.ref 0), some (.int x1)] [] am_C0 h o g (fun w h' o' g' => ∃ y, w = some (.int y) ∧ Q (some (.int 0)) h' (am_setL o' 108 0 y.toInt64) g') (fun E h' o' g' => if E = 0 then Q (some (.int 1)) h' o' g' else T E h' o' g')) : am_X L xs (d + 1) 41 0 [some (.ref 0), some (.int x1), some (.ref 108), none] [] am_C0 h o g Q T := by
  refine xo_2 rfl rfl ?_
  refine xo_0 rfl ?_
  refine xo_2 rfl rfl ?_
  refine xo_1 rfl rfl ?_
  refine ch_42 rfl rfl (am_X.mono H ?_ ?_)
  · rintro w h o g ⟨y, rfl, H⟩
    show am_X L xs (d + 1) 41 7 [some (.ref 0), some (.int x1), some (.ref 108), none] [.int y, .int 0, .ref 108] am_C0 h o g Q T
    refine xo_32 rfl ?_
    refine xo_26 rfl ca_108 (am_ix.lit rfl) ?_
    refine xo_12 rfl ?_
    refine xo_0 rfl ?_
    refine xo_41 rfl ?_
    exact H
  · intro E h o g H
    by_cases hE0 : E = 0
    · rw [if_pos hE0] at H
      subst hE0
      show am_X L xs (d + 1) 41 13 [some (.ref 0), some (.int x1), some (.ref 108), none] [] am_C0 h o g Q T
      refine xo_0 rfl ?_
      refine xo_41 rfl ?_
      exact H
    · rw [if_neg hE0] at H
      have e : am_hand (am_hd 41) 4 E = none := by
        show am_hand [(0, 9, 0, 13, 3)] 4 E = none
        simp only [am_hand]
        rw [if_neg (fun q => hE0 q.2.2.symm)]
      show (match am_hand (am_hd 41) 4 E with | none => T E h o g | some (pc', j) => am_X L xs (d + 1) 41 pc' (am_st1 [some (.ref 0), some (.int x1), some (.ref 108), none] j none) [] am_C0 h o g Q T)
      rw [e]
      exact H
theorem sm_42 {x1 : Int32} (H : (if x1 = 0 then Q (some (.int (h 3 0))) h o g else (if x1 = 1 then Q (some (.int (h 3 1))) h o g else (if x1 = 2 then Q (some (.int (h 3 2))) h o g else (if x1 = 3 then Q (some (.int (h 12 0))) h o g else (if x1 = 4 then Q (some (.int (h 12 1))) h o g else (if x1 = 5 then Q (some (.int (h 12 2))) h o g else (if x1 = 6 then Q (some (.int (h 12 3))) h o g else (if x1 = 7 then Q (some (.int (h 23 0))) h o g else (if x1 = 8 then Q (some (.int (h 1 0))) h o g else (if x1 = 9 then Q (some (.int (h 33 0))) h o g else (if x1 = 10 then Q (some (.int (h 33 1))) h o g else (if x1 = 11 then Q (some (.int (h 33 2))) h o g else T 0 h o (g + 1)))))))))))))) : am_X L xs d 42 0 [some (.ref 0), some (.int x1)] [] am_C0 h o g Q T := by
  refine xo_1 rfl rfl ?_
  by_cases hc1 : x1 = 0
  · rw [if_pos hc1] at H
    refine xo_52 (t := 64) rfl (by rw [hc1]; rfl) ?_
    refine xo_2 rfl rfl ?_
    refine xo_13r rfl cr_0_1 ?_
    refine xo_13 rfl cf_3_0 ?_
    refine xo_41 rfl ?_
    exact H
  · rw [if_neg hc1] at H
    by_cases hc2 : x1 = 1
    · rw [if_pos hc2] at H
      refine xo_52 (t := 72) rfl (by rw [hc2]; rfl) ?_
      refine xo_2 rfl rfl ?_
      refine xo_13r rfl cr_0_1 ?_
      refine xo_13 rfl cf_3_1 ?_
      refine xo_41 rfl ?_
      exact H
    · rw [if_neg hc2] at H
      by_cases hc3 : x1 = 2
      · rw [if_pos hc3] at H
        refine xo_52 (t := 80) rfl (by rw [hc3]; rfl) ?_
        refine xo_2 rfl rfl ?_
        refine xo_13r rfl cr_0_1 ?_
        refine xo_13 rfl cf_3_2 ?_
        refine xo_41 rfl ?_
        exact H
      · rw [if_neg hc3] at H
        by_cases hc4 : x1 = 3
        · rw [if_pos hc4] at H
          refine xo_52 (t := 88) rfl (by rw [hc4]; rfl) ?_
          refine xo_2 rfl rfl ?_
          refine xo_13r rfl cr_0_1 ?_
          refine xo_13r rfl cr_3_11 ?_
          refine xo_0 rfl ?_
          refine xo_17 rfl ca_12 (am_ix.lit rfl) ?_
          refine xo_41 rfl ?_
          exact H
        · rw [if_neg hc4] at H
          by_cases hc5 : x1 = 4
          · rw [if_pos hc5] at H
            refine xo_52 (t := 98) rfl (by rw [hc5]; rfl) ?_
            refine xo_2 rfl rfl ?_
            refine xo_13r rfl cr_0_1 ?_
            refine xo_13r rfl cr_3_11 ?_
            refine xo_0 rfl ?_
            refine xo_17 rfl ca_12 (am_ix.lit rfl) ?_
            refine xo_41 rfl ?_
            exact H
          · rw [if_neg hc5] at H
            by_cases hc6 : x1 = 5
            · rw [if_pos hc6] at H
              refine xo_52 (t := 108) rfl (by rw [hc6]; rfl) ?_
              refine xo_2 rfl rfl ?_
              refine xo_13r rfl cr_0_1 ?_
              refine xo_13r rfl cr_3_11 ?_
              refine xo_0 rfl ?_
              refine xo_17 rfl ca_12 (am_ix.lit rfl) ?_
              refine xo_41 rfl ?_
              exact H
            · rw [if_neg hc6] at H
              by_cases hc7 : x1 = 6
              · rw [if_pos hc7] at H
                refine xo_52 (t := 118) rfl (by rw [hc7]; rfl) ?_
                refine xo_2 rfl rfl ?_
                refine xo_13r rfl cr_0_1 ?_
                refine xo_13r rfl cr_3_11 ?_
                refine xo_0 rfl ?_
                refine xo_17 rfl ca_12 (am_ix.lit rfl) ?_
                refine xo_41 rfl ?_
                exact H
              · rw [if_neg hc7] at H
                by_cases hc8 : x1 = 7
                · rw [if_pos hc8] at H
                  refine xo_52 (t := 128) rfl (by rw [hc8]; rfl) ?_
                  refine xo_2 rfl rfl ?_
                  refine xo_13r rfl cr_0_3 ?_
                  refine xo_13 rfl cf_23_0 ?_
                  refine xo_41 rfl ?_
                  exact H
                · rw [if_neg hc8] at H
                  by_cases hc9 : x1 = 8
                  · rw [if_pos hc9] at H
                    refine xo_52 (t := 136) rfl (by rw [hc9]; rfl) ?_
                    refine xo_2 rfl rfl ?_
                    refine xo_13r rfl cr_0_0 ?_
                    refine xo_13 rfl cf_1_0 ?_
                    refine xo_41 rfl ?_
                    exact H
                  · rw [if_neg hc9] at H
                    by_cases hc10 : x1 = 9
                    · rw [if_pos hc10] at H
                      refine xo_52 (t := 144) rfl (by rw [hc10]; rfl) ?_
                      refine xo_2 rfl rfl ?_
                      refine xo_13r rfl cr_0_3 ?_
                      refine xo_13r rfl cr_23_10 ?_
                      refine xo_0 rfl ?_
                      refine xo_17 rfl ca_33 (am_ix.lit rfl) ?_
                      refine xo_41 rfl ?_
                      exact H
                    · rw [if_neg hc10] at H
                      by_cases hc11 : x1 = 10
                      · rw [if_pos hc11] at H
                        refine xo_52 (t := 154) rfl (by rw [hc11]; rfl) ?_
                        refine xo_2 rfl rfl ?_
                        refine xo_13r rfl cr_0_3 ?_
                        refine xo_13r rfl cr_23_10 ?_
                        refine xo_0 rfl ?_
                        refine xo_17 rfl ca_33 (am_ix.lit rfl) ?_
                        refine xo_41 rfl ?_
                        exact H
                      · rw [if_neg hc11] at H
                        by_cases hc12 : x1 = 11
                        · rw [if_pos hc12] at H
                          refine xo_52 (t := 164) rfl (by rw [hc12]; rfl) ?_
                          refine xo_2 rfl rfl ?_
                          refine xo_13r rfl cr_0_3 ?_
                          refine xo_13r rfl cr_23_10 ?_
                          refine xo_0 rfl ?_
                          refine xo_17 rfl ca_33 (am_ix.lit rfl) ?_
                          refine xo_41 rfl ?_
                          exact H
                        · rw [if_neg hc12] at H
                          refine xo_52 (t := 174) rfl ?_ ?_
                          · have e0 : ¬ (x1).toInt = 0 := fun e => hc1 (Int32.toInt_inj.mp e)
                            have e1 : ¬ (x1).toInt = 1 := fun e => hc2 (Int32.toInt_inj.mp e)
                            have e2 : ¬ (x1).toInt = 2 := fun e => hc3 (Int32.toInt_inj.mp e)
                            have e3 : ¬ (x1).toInt = 3 := fun e => hc4 (Int32.toInt_inj.mp e)
                            have e4 : ¬ (x1).toInt = 4 := fun e => hc5 (Int32.toInt_inj.mp e)
                            have e5 : ¬ (x1).toInt = 5 := fun e => hc6 (Int32.toInt_inj.mp e)
                            have e6 : ¬ (x1).toInt = 6 := fun e => hc7 (Int32.toInt_inj.mp e)
                            have e7 : ¬ (x1).toInt = 7 := fun e => hc8 (Int32.toInt_inj.mp e)
                            have e8 : ¬ (x1).toInt = 8 := fun e => hc9 (Int32.toInt_inj.mp e)
                            have e9 : ¬ (x1).toInt = 9 := fun e => hc10 (Int32.toInt_inj.mp e)
                            have e10 : ¬ (x1).toInt = 10 := fun e => hc11 (Int32.toInt_inj.mp e)
                            have e11 : ¬ (x1).toInt = 11 := fun e => hc12 (Int32.toInt_inj.mp e)
                            rw [if_pos (by show (x1).toInt < 0 ∨ 11 < (x1).toInt; omega)]
                            rfl
                          · refine xo_45 rfl (Nat.le_of_ble_eq_true rfl) ?_
                            exact H
theorem wr_43 {x1 : Int32} {x2 : Int32} (H : am_X L xs d 44 0 [some (.ref 0), some (.int x1), some (.int x2)] [] am_C0 h o g (fun w h' o' g' => ∃ y, w = some (.int y) ∧ Q (some (.int 0)) h' (am_setL o' 108 0 y.toInt64) g') (fun E h' o' g' => if E = 0 then Q (some (.int 1)) h' o' g' else T E h' o' g')) : am_X L xs (d + 1) 43 0 [some (.ref 0), some (.int x1), some (.int x2), some (.ref 108), none] [] am_C0 h o g Q T := by
  refine xo_2 rfl rfl ?_
  refine xo_0 rfl ?_
  refine xo_2 rfl rfl ?_
  refine xo_1 rfl rfl ?_
  refine xo_1 rfl rfl ?_
  refine ch_44 rfl rfl (am_X.mono H ?_ ?_)
  · rintro w h o g ⟨y, rfl, H⟩
    show am_X L xs (d + 1) 43 8 [some (.ref 0), some (.int x1), some (.int x2), some (.ref 108), none] [.int y, .int 0, .ref 108] am_C0 h o g Q T
    refine xo_32 rfl ?_
    refine xo_26 rfl ca_108 (am_ix.lit rfl) ?_
    refine xo_12 rfl ?_
    refine xo_0 rfl ?_
    refine xo_41 rfl ?_
    exact H
  · intro E h o g H
    by_cases hE0 : E = 0
    · rw [if_pos hE0] at H
      subst hE0
      show am_X L xs (d + 1) 43 15 [some (.ref 0), some (.int x1), some (.int x2), some (.ref 108), none] [] am_C0 h o g Q T
      refine xo_0 rfl ?_
      refine xo_41 rfl ?_
      exact H
    · rw [if_neg hE0] at H
      have e : am_hand (am_hd 43) 5 E = none := by
        show am_hand [(0, 10, 0, 15, 4)] 5 E = none
        simp only [am_hand]
        rw [if_neg (fun q => hE0 q.2.2.symm)]
      show (match am_hand (am_hd 43) 5 E with | none => T E h o g | some (pc', j) => am_X L xs (d + 1) 43 pc' (am_st1 [some (.ref 0), some (.int x1), some (.int x2), some (.ref 108), none] j none) [] am_C0 h o g Q T)
      rw [e]
      exact H
theorem sm_44 {x1 : Int32} {x2 : Int32} (H : (if x1 < 0 then T 0 h o (g + 1) else (if x1 < (h 3 0) then (if x2 = 0 then (am_ix x1 5 ∧ Q (some (.int (h 4 x1.toNatClampNeg))) h o g) else (if x2 = 1 then (am_ix x1 5 ∧ Q (some (.int (h 5 x1.toNatClampNeg))) h o g) else (if x2 = 2 then (am_ix x1 5 ∧ Q (some (.int (h 6 x1.toNatClampNeg))) h o g) else (if x2 = 3 then (am_ix x1 5 ∧ Q (some (.int (h 7 x1.toNatClampNeg))) h o g) else (if x2 = 4 then (am_ix x1 5 ∧ Q (some (.int (h 8 x1.toNatClampNeg))) h o g) else (if x2 = 5 then (am_ix x1 5 ∧ Q (some (.int (h 30 x1.toNatClampNeg))) h o g) else (if x2 = 6 then am_X L xs d 46 0 [some (.ref 0), some (.int x1)] [] am_C0 h o g (fun w h' o' g' => am_X L xs (d + 1) 44 117 [some (.ref 0), some (.int x1), some (.int x2)] (w.toList ++ []) am_C0 h' o' g' Q T) T else (if x2 = 7 then am_X L xs d 46 0 [some (.ref 0), some (.int x1)] [] am_C0 h o g (fun w h' o' g' => am_X L xs (d + 1) 44 126 [some (.ref 0), some (.int x1), some (.int x2)] (w.toList ++ []) am_C0 h' o' g' Q T) T else T 0 h o (g + 1))))))))) else T 0 h o (g + 1)))) : am_X L xs (d + 1) 44 0 [some (.ref 0), some (.int x1), some (.int x2)] [] am_C0 h o g Q T := by
  refine xo_2 rfl rfl ?_
  refine xo_1 rfl rfl ?_
  refine cl_45_0 rfl hd_44 rfl ?_
  refine xo_1 rfl rfl ?_
  refine xo_10lt rfl (am_sp ?_ ?_ H)
  · intro hc1 H
    refine xo_45 rfl (Nat.le_of_ble_eq_true rfl) ?_
    exact H
  · intro hc1 H
    refine xo_1 rfl rfl ?_
    refine xo_2 rfl rfl ?_
    refine xo_13r rfl cr_0_1 ?_
    refine xo_13 rfl cf_3_0 ?_
    refine xo_11lt rfl (am_sp ?_ ?_ H)
    · intro hc2 H
      refine xr_44 rfl ?_
      refine xo_1 rfl rfl ?_
      by_cases hc3 : x2 = 0
      · rw [if_pos hc3] at H
        refine xo_52 (t := 52) rfl (by rw [hc3]; rfl) ?_
        refine xo_2 rfl rfl ?_
        refine xo_13r rfl cr_0_1 ?_
        refine xo_13r rfl cr_3_3 ?_
        refine xo_1 rfl rfl ?_
        obtain ⟨hg4, H⟩ := H
        refine xo_17 rfl ca_4 hg4 ?_
        refine xo_41 rfl ?_
        exact H
      · rw [if_neg hc3] at H
        by_cases hc5 : x2 = 1
        · rw [if_pos hc5] at H
          refine xo_52 (t := 62) rfl (by rw [hc5]; rfl) ?_
          refine xo_2 rfl rfl ?_
          refine xo_13r rfl cr_0_1 ?_
          refine xo_13r rfl cr_3_4 ?_
          refine xo_1 rfl rfl ?_
          obtain ⟨hg6, H⟩ := H
          refine xo_17 rfl ca_5 hg6 ?_
          refine xo_41 rfl ?_
          exact H
        · rw [if_neg hc5] at H
          by_cases hc7 : x2 = 2
          · rw [if_pos hc7] at H
            refine xo_52 (t := 72) rfl (by rw [hc7]; rfl) ?_
            refine xo_2 rfl rfl ?_
            refine xo_13r rfl cr_0_1 ?_
            refine xo_13r rfl cr_3_5 ?_
            refine xo_1 rfl rfl ?_
            obtain ⟨hg8, H⟩ := H
            refine xo_17 rfl ca_6 hg8 ?_
            refine xo_41 rfl ?_
            exact H
          · rw [if_neg hc7] at H
            by_cases hc9 : x2 = 3
            · rw [if_pos hc9] at H
              refine xo_52 (t := 82) rfl (by rw [hc9]; rfl) ?_
              refine xo_2 rfl rfl ?_
              refine xo_13r rfl cr_0_1 ?_
              refine xo_13r rfl cr_3_6 ?_
              refine xo_1 rfl rfl ?_
              obtain ⟨hg10, H⟩ := H
              refine xo_17 rfl ca_7 hg10 ?_
              refine xo_41 rfl ?_
              exact H
            · rw [if_neg hc9] at H
              by_cases hc11 : x2 = 4
              · rw [if_pos hc11] at H
                refine xo_52 (t := 92) rfl (by rw [hc11]; rfl) ?_
                refine xo_2 rfl rfl ?_
                refine xo_13r rfl cr_0_1 ?_
                refine xo_13r rfl cr_3_7 ?_
                refine xo_1 rfl rfl ?_
                obtain ⟨hg12, H⟩ := H
                refine xo_17 rfl ca_8 hg12 ?_
                refine xo_41 rfl ?_
                exact H
              · rw [if_neg hc11] at H
                by_cases hc13 : x2 = 5
                · rw [if_pos hc13] at H
                  refine xo_52 (t := 102) rfl (by rw [hc13]; rfl) ?_
                  refine xo_2 rfl rfl ?_
                  refine xo_13r rfl cr_0_3 ?_
                  refine xo_13r rfl cr_23_7 ?_
                  refine xo_1 rfl rfl ?_
                  obtain ⟨hg14, H⟩ := H
                  refine xo_17 rfl ca_30 hg14 ?_
                  refine xo_41 rfl ?_
                  exact H
                · rw [if_neg hc13] at H
                  by_cases hc15 : x2 = 6
                  · rw [if_pos hc15] at H
                    refine xo_52 (t := 112) rfl (by rw [hc15]; rfl) ?_
                    refine xo_2 rfl rfl ?_
                    refine xo_1 rfl rfl ?_
                    refine cl_46_0 rfl hd_44 rfl ?_
                    exact H
                  · rw [if_neg hc15] at H
                    by_cases hc16 : x2 = 7
                    · rw [if_pos hc16] at H
                      refine xo_52 (t := 121) rfl (by rw [hc16]; rfl) ?_
                      refine xo_2 rfl rfl ?_
                      refine xo_1 rfl rfl ?_
                      refine cl_46_0 rfl hd_44 rfl ?_
                      exact H
                    · rw [if_neg hc16] at H
                      refine xo_52 (t := 130) rfl ?_ ?_
                      · have e0 : ¬ (x2).toInt = 0 := fun e => hc3 (Int32.toInt_inj.mp e)
                        have e1 : ¬ (x2).toInt = 1 := fun e => hc5 (Int32.toInt_inj.mp e)
                        have e2 : ¬ (x2).toInt = 2 := fun e => hc7 (Int32.toInt_inj.mp e)
                        have e3 : ¬ (x2).toInt = 3 := fun e => hc9 (Int32.toInt_inj.mp e)
                        have e4 : ¬ (x2).toInt = 4 := fun e => hc11 (Int32.toInt_inj.mp e)
                        have e5 : ¬ (x2).toInt = 5 := fun e => hc13 (Int32.toInt_inj.mp e)
                        have e6 : ¬ (x2).toInt = 6 := fun e => hc15 (Int32.toInt_inj.mp e)
                        have e7 : ¬ (x2).toInt = 7 := fun e => hc16 (Int32.toInt_inj.mp e)
                        rw [if_pos (by show (x2).toInt < 0 ∨ 7 < (x2).toInt; omega)]
                        rfl
                      · refine xo_45 rfl (Nat.le_of_ble_eq_true rfl) ?_
                        exact H
    · intro hc2 H
      refine xo_45 rfl (Nat.le_of_ble_eq_true rfl) ?_
      exact H
theorem sm_44_117 {q0 : Option Value} {q1 : Option Value} {q2 : Option Value} (hq0 : am_nl q0 = true) (hq1 : am_nl q1 = true) (hq2 : am_nl q2 = true) (H : Q (some (.int (h 61 0))) h o g) : am_X L xs d 44 117 [q0, q1, q2] [.ref 61] am_C0 h o g Q T := by
  refine xo_13 rfl cf_61_0 ?_
  refine xo_41 rfl ?_
  exact H
theorem sm_44_126 {q0 : Option Value} {q1 : Option Value} {q2 : Option Value} (hq0 : am_nl q0 = true) (hq1 : am_nl q1 = true) (hq2 : am_nl q2 = true) (H : Q (some (.int (h 61 1))) h o g) : am_X L xs d 44 126 [q0, q1, q2] [.ref 61] am_C0 h o g Q T := by
  refine xo_13 rfl cf_61_1 ?_
  refine xo_41 rfl ?_
  exact H
theorem sm_46 {x1 : Int32} (H : am_X L xs d 47 0 [some (.ref 23), some (.int x1), some (.ref 61)] [] am_C0 h o g (fun w h' o' g' => am_X L xs (d + 1) 46 12 [some (.ref 0), some (.int x1)] (w.toList ++ []) am_C0 h' o' g' Q T) T) : am_X L xs (d + 1) 46 0 [some (.ref 0), some (.int x1)] [] am_C0 h o g Q T := by
  refine xo_2 rfl rfl ?_
  refine xo_13r rfl cr_0_3 ?_
  refine xo_1 rfl rfl ?_
  refine xo_2 rfl rfl ?_
  refine xo_13r rfl cr_0_8 ?_
  refine cl_47_23_61 rfl hd_46 rfl ?_
  exact H
theorem sm_46_12 {q1 : Option Value} (hq1 : am_nl q1 = true) (H : Q (some (.ref 61)) h o g) : am_X L xs d 46 12 [some (.ref 0), q1] [] am_C0 h o g Q T := by
  refine xo_2 rfl rfl ?_
  refine xo_13r rfl cr_0_8 ?_
  refine xo_43 rfl ?_
  exact H
theorem sm_47 {x1 : Int32} (H : am_X L xs d 16 0 [some (.ref 23), some (.int x1), some (.int 15), some (.ref 61), none, none] [] am_C0 h o g (fun w h' o' g' => am_X L xs (d + 1) 47 8 [some (.ref 23), some (.int x1), some (.ref 61)] (w.toList ++ []) am_C0 h' o' g' Q T) T) : am_X L xs (d + 1) 47 0 [some (.ref 23), some (.int x1), some (.ref 61)] [] am_C0 h o g Q T := by
  refine xo_2 rfl rfl ?_
  refine xo_1 rfl rfl ?_
  refine xo_0 rfl ?_
  refine xo_2 rfl rfl ?_
  refine cl_16_23_61 rfl hd_47 rfl ?_
  exact H
theorem sm_47_8 {q0 : Option Value} {q1 : Option Value} {q2 : Option Value} (hq0 : am_nl q0 = true) (hq1 : am_nl q1 = true) (hq2 : am_nl q2 = true) (H : Q none h o g) : am_X L xs d 47 8 [q0, q1, q2] [] am_C0 h o g Q T := by
  refine xo_44 rfl ?_
  exact H
theorem wr_48 {x1 : Int32} {x2 : Int32} (H : am_X L xs d 49 0 [some (.ref 0), some (.int x1), some (.int x2), none, none] [] am_C0 h o g (fun w h' o' g' => ∃ y, w = some (.int y) ∧ Q (some (.int 0)) h' (am_setL o' 108 0 y.toInt64) g') (fun E h' o' g' => if E = 0 then Q (some (.int 1)) h' o' g' else T E h' o' g')) : am_X L xs (d + 1) 48 0 [some (.ref 0), some (.int x1), some (.int x2), some (.ref 108), none] [] am_C0 h o g Q T := by
  refine xo_2 rfl rfl ?_
  refine xo_0 rfl ?_
  refine xo_2 rfl rfl ?_
  refine xo_1 rfl rfl ?_
  refine xo_1 rfl rfl ?_
  refine ch_49 rfl rfl (am_X.mono H ?_ ?_)
  · rintro w h o g ⟨y, rfl, H⟩
    show am_X L xs (d + 1) 48 8 [some (.ref 0), some (.int x1), some (.int x2), some (.ref 108), none] [.int y, .int 0, .ref 108] am_C0 h o g Q T
    refine xo_32 rfl ?_
    refine xo_26 rfl ca_108 (am_ix.lit rfl) ?_
    refine xo_12 rfl ?_
    refine xo_0 rfl ?_
    refine xo_41 rfl ?_
    exact H
  · intro E h o g H
    by_cases hE0 : E = 0
    · rw [if_pos hE0] at H
      subst hE0
      show am_X L xs (d + 1) 48 15 [some (.ref 0), some (.int x1), some (.int x2), some (.ref 108), none] [] am_C0 h o g Q T
      refine xo_0 rfl ?_
      refine xo_41 rfl ?_
      exact H
    · rw [if_neg hE0] at H
      have e : am_hand (am_hd 48) 5 E = none := by
        show am_hand [(0, 10, 0, 15, 4)] 5 E = none
        simp only [am_hand]
        rw [if_neg (fun q => hE0 q.2.2.symm)]
      show (match am_hand (am_hd 48) 5 E with | none => T E h o g | some (pc', j) => am_X L xs (d + 1) 48 pc' (am_st1 [some (.ref 0), some (.int x1), some (.int x2), some (.ref 108), none] j none) [] am_C0 h o g Q T)
      rw [e]
      exact H
theorem sm_49 {x1 : Int32} {x2 : Int32} (H : (if x1 < 0 then T 0 h o (g + 1) else (if x1 < (h 3 1) then (if x2 < 0 then T 0 h o (g + 1) else (if 4 < x2 then T 0 h o (g + 1) else am_X L xs (d + 1) 49 16 [some (.ref 0), some (.int x1), some (.int x2), some (.int 0), some (.int 0)] [] am_C0 h o g Q T)) else T 0 h o (g + 1)))) : am_X L xs (d + 1) 49 0 [some (.ref 0), some (.int x1), some (.int x2), none, none] [] am_C0 h o g Q T := by
  refine xo_2 rfl rfl ?_
  refine xo_1 rfl rfl ?_
  refine cl_50_0 rfl hd_49 rfl ?_
  refine xo_1 rfl rfl ?_
  refine xo_10lt rfl (am_sp ?_ ?_ H)
  · intro hc1 H
    refine xo_45 rfl (Nat.le_of_ble_eq_true rfl) ?_
    exact H
  · intro hc1 H
    refine xo_1 rfl rfl ?_
    refine xo_2 rfl rfl ?_
    refine xo_13r rfl cr_0_1 ?_
    refine xo_13 rfl cf_3_1 ?_
    refine xo_11lt rfl (am_sp ?_ ?_ H)
    · intro hc2 H
      refine xr_44 rfl ?_
      refine xo_2 rfl rfl ?_
      refine xo_1 rfl rfl ?_
      refine xo_0 rfl ?_
      refine cl_51_0 rfl hd_49 rfl ?_
      refine xo_1 rfl rfl ?_
      refine xo_10lt rfl (am_sp ?_ ?_ H)
      · intro hc3 H
        refine xo_45 rfl (Nat.le_of_ble_eq_true rfl) ?_
        exact H
      · intro hc3 H
        refine xo_1 rfl rfl ?_
        refine xo_1 rfl rfl ?_
        refine xo_11le rfl (am_sp ?_ ?_ H)
        · intro hc4 H
          refine xo_45 rfl (Nat.le_of_ble_eq_true rfl) ?_
          exact H
        · intro hc4 H
          refine xr_44 rfl ?_
          refine xo_0 rfl ?_
          refine xo_4 (lv' := [some (.ref 0), some (.int x1), some (.int x2), some (.int 0), none]) rfl rfl rfl ?_
          refine xo_0 rfl ?_
          refine xo_4 (lv' := [some (.ref 0), some (.int x1), some (.int x2), some (.int 0), some (.int 0)]) rfl rfl rfl ?_
          exact H
    · intro hc2 H
      refine xo_45 rfl (Nat.le_of_ble_eq_true rfl) ?_
      exact H
theorem sm_49_16 {x1 : Int32} {x2 : Int32} {x3 : Int32} {x4 : Int32} (H : (if x4 < (h 23 0) then (if x2 = 0 then (am_ix x4 80 ∧ (if (h 24 x4.toNatClampNeg) = x1 then am_X L xs (d + 2) 49 16 [some (.ref 0), some (.int x1), some (.int x2), some (.int (x3 + (h 29 x4.toNatClampNeg))), some (.int (x4 + 1))] [] am_C0 h o g Q T else am_X L xs (d + 2) 49 16 [some (.ref 0), some (.int x1), some (.int x2), some (.int (x3 + 0)), some (.int (x4 + 1))] [] am_C0 h o g Q T)) else (if x2 = 1 then (am_ix x4 80 ∧ (if (h 25 x4.toNatClampNeg) = x1 then am_X L xs (d + 2) 49 16 [some (.ref 0), some (.int x1), some (.int x2), some (.int (x3 + (h 29 x4.toNatClampNeg))), some (.int (x4 + 1))] [] am_C0 h o g Q T else am_X L xs (d + 2) 49 16 [some (.ref 0), some (.int x1), some (.int x2), some (.int (x3 + 0)), some (.int (x4 + 1))] [] am_C0 h o g Q T)) else (if x2 = 2 then (am_ix x4 80 ∧ (if (h 25 x4.toNatClampNeg) = (-1) then (if (h 24 x4.toNatClampNeg) = x1 then am_X L xs (d + 2) 49 16 [some (.ref 0), some (.int x1), some (.int x2), some (.int (x3 + 1)), some (.int (x4 + 1))] [] am_C0 h o g Q T else am_X L xs (d + 2) 49 16 [some (.ref 0), some (.int x1), some (.int x2), some (.int (x3 + 0)), some (.int (x4 + 1))] [] am_C0 h o g Q T) else am_X L xs (d + 2) 49 16 [some (.ref 0), some (.int x1), some (.int x2), some (.int (x3 + 0)), some (.int (x4 + 1))] [] am_C0 h o g Q T)) else (if x2 = 3 then (am_ix x4 80 ∧ (if (h 25 x4.toNatClampNeg) = x1 then am_X L xs (d + 2) 49 16 [some (.ref 0), some (.int x1), some (.int x2), some (.int (x3 + 1)), some (.int (x4 + 1))] [] am_C0 h o g Q T else am_X L xs (d + 2) 49 16 [some (.ref 0), some (.int x1), some (.int x2), some (.int (x3 + 0)), some (.int (x4 + 1))] [] am_C0 h o g Q T)) else (if x2 = 4 then (am_ix x4 80 ∧ (if (h 25 x4.toNatClampNeg) = (-1) then am_X L xs (d + 2) 49 16 [some (.ref 0), some (.int x1), some (.int x2), some (.int (x3 + 0)), some (.int (x4 + 1))] [] am_C0 h o g Q T else (if (h 24 x4.toNatClampNeg) = x1 then am_X L xs (d + 2) 49 16 [some (.ref 0), some (.int x1), some (.int x2), some (.int (x3 + 1)), some (.int (x4 + 1))] [] am_C0 h o g Q T else am_X L xs (d + 2) 49 16 [some (.ref 0), some (.int x1), some (.int x2), some (.int (x3 + 0)), some (.int (x4 + 1))] [] am_C0 h o g Q T))) else am_X L xs (d + 2) 49 16 [some (.ref 0), some (.int x1), some (.int x2), some (.int (x3 + 0)), some (.int (x4 + 1))] [] am_C0 h o g Q T))))) else Q (some (.int x3)) h o g)) : am_X L xs (d + 2) 49 16 [some (.ref 0), some (.int x1), some (.int x2), some (.int x3), some (.int x4)] [] am_C0 h o g Q T := by
  refine xo_1 rfl rfl ?_
  refine xo_2 rfl rfl ?_
  refine xo_13r rfl cr_0_3 ?_
  refine xo_13 rfl cf_23_0 ?_
  refine xo_11ge rfl (am_sp ?_ ?_ H)
  · intro hc1 H
    refine xo_1 rfl rfl ?_
    refine xo_2 rfl rfl ?_
    refine xo_13r rfl cr_0_3 ?_
    refine xo_1 rfl rfl ?_
    refine xo_1 rfl rfl ?_
    refine xo_1 rfl rfl ?_
    refine cl_52_23 rfl hd_49 rfl ?_
    refine xo_1 rfl rfl ?_
    by_cases hc2 : x2 = 0
    · rw [if_pos hc2] at H
      refine xo_52 (t := 36) rfl (by rw [hc2]; rfl) ?_
      refine xo_2 rfl rfl ?_
      refine xo_13r rfl cr_23_1 ?_
      refine xo_1 rfl rfl ?_
      obtain ⟨hg3, H⟩ := H
      refine xo_17 rfl ca_24 hg3 ?_
      refine xo_1 rfl rfl ?_
      refine xo_11ne rfl (am_sp ?_ ?_ H)
      · intro hc4 H
        refine xo_2 rfl rfl ?_
        refine xo_13r rfl cr_23_6 ?_
        refine xo_1 rfl rfl ?_
        refine xo_17 rfl ca_29 hg3 ?_
        refine xo_12 rfl ?_
        refine xr_41 rfl ?_
        refine xo_7 rfl rfl ?_
        refine xo_4 (lv' := [some (.ref 0), some (.int x1), some (.int x2), some (.int (x3 + (h 29 x4.toNatClampNeg))), some (.int x4)]) rfl rfl rfl ?_
        refine xo_9 (z := (x4 + 1)) (lv' := [some (.ref 0), some (.int x1), some (.int x2), some (.int (x3 + (h 29 x4.toNatClampNeg))), some (.int (x4 + 1))]) rfl rfl rfl rfl rfl ?_
        refine xo_12 rfl ?_
        exact H
      · intro hc4 H
        refine xo_0 rfl ?_
        refine xr_41 rfl ?_
        refine xo_7 rfl rfl ?_
        refine xo_4 (lv' := [some (.ref 0), some (.int x1), some (.int x2), some (.int (x3 + 0)), some (.int x4)]) rfl rfl rfl ?_
        refine xo_9 (z := (x4 + 1)) (lv' := [some (.ref 0), some (.int x1), some (.int x2), some (.int (x3 + 0)), some (.int (x4 + 1))]) rfl rfl rfl rfl rfl ?_
        refine xo_12 rfl ?_
        exact H
    · rw [if_neg hc2] at H
      by_cases hc5 : x2 = 1
      · rw [if_pos hc5] at H
        refine xo_52 (t := 57) rfl (by rw [hc5]; rfl) ?_
        refine xo_2 rfl rfl ?_
        refine xo_13r rfl cr_23_2 ?_
        refine xo_1 rfl rfl ?_
        obtain ⟨hg6, H⟩ := H
        refine xo_17 rfl ca_25 hg6 ?_
        refine xo_1 rfl rfl ?_
        refine xo_11ne rfl (am_sp ?_ ?_ H)
        · intro hc7 H
          refine xo_2 rfl rfl ?_
          refine xo_13r rfl cr_23_6 ?_
          refine xo_1 rfl rfl ?_
          refine xo_17 rfl ca_29 hg6 ?_
          refine xo_12 rfl ?_
          refine xr_41 rfl ?_
          refine xo_7 rfl rfl ?_
          refine xo_4 (lv' := [some (.ref 0), some (.int x1), some (.int x2), some (.int (x3 + (h 29 x4.toNatClampNeg))), some (.int x4)]) rfl rfl rfl ?_
          refine xo_9 (z := (x4 + 1)) (lv' := [some (.ref 0), some (.int x1), some (.int x2), some (.int (x3 + (h 29 x4.toNatClampNeg))), some (.int (x4 + 1))]) rfl rfl rfl rfl rfl ?_
          refine xo_12 rfl ?_
          exact H
        · intro hc7 H
          refine xo_0 rfl ?_
          refine xr_41 rfl ?_
          refine xo_7 rfl rfl ?_
          refine xo_4 (lv' := [some (.ref 0), some (.int x1), some (.int x2), some (.int (x3 + 0)), some (.int x4)]) rfl rfl rfl ?_
          refine xo_9 (z := (x4 + 1)) (lv' := [some (.ref 0), some (.int x1), some (.int x2), some (.int (x3 + 0)), some (.int (x4 + 1))]) rfl rfl rfl rfl rfl ?_
          refine xo_12 rfl ?_
          exact H
      · rw [if_neg hc5] at H
        by_cases hc8 : x2 = 2
        · rw [if_pos hc8] at H
          refine xo_52 (t := 78) rfl (by rw [hc8]; rfl) ?_
          refine xo_2 rfl rfl ?_
          refine xo_1 rfl rfl ?_
          refine xo_1 rfl rfl ?_
          refine cl_53_23 rfl hd_52 rfl ?_
          refine xo_2 rfl rfl ?_
          refine xo_13r rfl cr_23_2 ?_
          refine xo_1 rfl rfl ?_
          obtain ⟨hg9, H⟩ := H
          refine xo_17 rfl ca_25 hg9 ?_
          refine xo_0 rfl ?_
          refine xo_11ne rfl (am_sp ?_ ?_ H)
          · intro hc10 H
            refine xo_2 rfl rfl ?_
            refine xo_13r rfl cr_23_1 ?_
            refine xo_1 rfl rfl ?_
            refine xo_17 rfl ca_24 hg9 ?_
            refine xo_1 rfl rfl ?_
            refine xo_11ne rfl (am_sp ?_ ?_ H)
            · intro hc11 H
              refine xo_0 rfl ?_
              refine xo_12 rfl ?_
              refine xr_42 rfl rfl ?_
              refine xo_10n rfl (by decide) ?_
              refine xo_0 rfl ?_
              refine xo_12 rfl ?_
              refine xr_41 rfl ?_
              refine xo_7 rfl rfl ?_
              refine xo_4 (lv' := [some (.ref 0), some (.int x1), some (.int x2), some (.int (x3 + 1)), some (.int x4)]) rfl rfl rfl ?_
              refine xo_9 (z := (x4 + 1)) (lv' := [some (.ref 0), some (.int x1), some (.int x2), some (.int (x3 + 1)), some (.int (x4 + 1))]) rfl rfl rfl rfl rfl ?_
              refine xo_12 rfl ?_
              exact H
            · intro hc11 H
              refine xo_0 rfl ?_
              refine xr_42 rfl rfl ?_
              refine xo_10 rfl (by decide) ?_
              refine xo_0 rfl ?_
              refine xr_41 rfl ?_
              refine xo_7 rfl rfl ?_
              refine xo_4 (lv' := [some (.ref 0), some (.int x1), some (.int x2), some (.int (x3 + 0)), some (.int x4)]) rfl rfl rfl ?_
              refine xo_9 (z := (x4 + 1)) (lv' := [some (.ref 0), some (.int x1), some (.int x2), some (.int (x3 + 0)), some (.int (x4 + 1))]) rfl rfl rfl rfl rfl ?_
              refine xo_12 rfl ?_
              exact H
          · intro hc10 H
            refine xo_0 rfl ?_
            refine xr_42 rfl rfl ?_
            refine xo_10 rfl (by decide) ?_
            refine xo_0 rfl ?_
            refine xr_41 rfl ?_
            refine xo_7 rfl rfl ?_
            refine xo_4 (lv' := [some (.ref 0), some (.int x1), some (.int x2), some (.int (x3 + 0)), some (.int x4)]) rfl rfl rfl ?_
            refine xo_9 (z := (x4 + 1)) (lv' := [some (.ref 0), some (.int x1), some (.int x2), some (.int (x3 + 0)), some (.int (x4 + 1))]) rfl rfl rfl rfl rfl ?_
            refine xo_12 rfl ?_
            exact H
        · rw [if_neg hc8] at H
          by_cases hc12 : x2 = 3
          · rw [if_pos hc12] at H
            refine xo_52 (t := 93) rfl (by rw [hc12]; rfl) ?_
            refine xo_2 rfl rfl ?_
            refine xo_13r rfl cr_23_2 ?_
            refine xo_1 rfl rfl ?_
            obtain ⟨hg13, H⟩ := H
            refine xo_17 rfl ca_25 hg13 ?_
            refine xo_1 rfl rfl ?_
            refine xo_11ne rfl (am_sp ?_ ?_ H)
            · intro hc14 H
              refine xo_0 rfl ?_
              refine xo_12 rfl ?_
              refine xr_41 rfl ?_
              refine xo_7 rfl rfl ?_
              refine xo_4 (lv' := [some (.ref 0), some (.int x1), some (.int x2), some (.int (x3 + 1)), some (.int x4)]) rfl rfl rfl ?_
              refine xo_9 (z := (x4 + 1)) (lv' := [some (.ref 0), some (.int x1), some (.int x2), some (.int (x3 + 1)), some (.int (x4 + 1))]) rfl rfl rfl rfl rfl ?_
              refine xo_12 rfl ?_
              exact H
            · intro hc14 H
              refine xo_0 rfl ?_
              refine xr_41 rfl ?_
              refine xo_7 rfl rfl ?_
              refine xo_4 (lv' := [some (.ref 0), some (.int x1), some (.int x2), some (.int (x3 + 0)), some (.int x4)]) rfl rfl rfl ?_
              refine xo_9 (z := (x4 + 1)) (lv' := [some (.ref 0), some (.int x1), some (.int x2), some (.int (x3 + 0)), some (.int (x4 + 1))]) rfl rfl rfl rfl rfl ?_
              refine xo_12 rfl ?_
              exact H
          · rw [if_neg hc12] at H
            by_cases hc15 : x2 = 4
            · rw [if_pos hc15] at H
              refine xo_52 (t := 109) rfl (by rw [hc15]; rfl) ?_
              refine xo_2 rfl rfl ?_
              refine xo_1 rfl rfl ?_
              refine xo_1 rfl rfl ?_
              refine cl_54_23 rfl hd_52 rfl ?_
              refine xo_2 rfl rfl ?_
              refine xo_13r rfl cr_23_2 ?_
              refine xo_1 rfl rfl ?_
              obtain ⟨hg16, H⟩ := H
              refine xo_17 rfl ca_25 hg16 ?_
              refine xo_0 rfl ?_
              refine xo_11eq rfl (am_sp ?_ ?_ H)
              · intro hc17 H
                refine xo_0 rfl ?_
                refine xr_42 rfl rfl ?_
                refine xo_10 rfl (by decide) ?_
                refine xo_0 rfl ?_
                refine xr_41 rfl ?_
                refine xo_7 rfl rfl ?_
                refine xo_4 (lv' := [some (.ref 0), some (.int x1), some (.int x2), some (.int (x3 + 0)), some (.int x4)]) rfl rfl rfl ?_
                refine xo_9 (z := (x4 + 1)) (lv' := [some (.ref 0), some (.int x1), some (.int x2), some (.int (x3 + 0)), some (.int (x4 + 1))]) rfl rfl rfl rfl rfl ?_
                refine xo_12 rfl ?_
                exact H
              · intro hc17 H
                refine xo_2 rfl rfl ?_
                refine xo_13r rfl cr_23_1 ?_
                refine xo_1 rfl rfl ?_
                refine xo_17 rfl ca_24 hg16 ?_
                refine xo_1 rfl rfl ?_
                refine xo_11ne rfl (am_sp ?_ ?_ H)
                · intro hc18 H
                  refine xo_0 rfl ?_
                  refine xo_12 rfl ?_
                  refine xr_42 rfl rfl ?_
                  refine xo_10n rfl (by decide) ?_
                  refine xo_0 rfl ?_
                  refine xo_12 rfl ?_
                  refine xr_41 rfl ?_
                  refine xo_7 rfl rfl ?_
                  refine xo_4 (lv' := [some (.ref 0), some (.int x1), some (.int x2), some (.int (x3 + 1)), some (.int x4)]) rfl rfl rfl ?_
                  refine xo_9 (z := (x4 + 1)) (lv' := [some (.ref 0), some (.int x1), some (.int x2), some (.int (x3 + 1)), some (.int (x4 + 1))]) rfl rfl rfl rfl rfl ?_
                  refine xo_12 rfl ?_
                  exact H
                · intro hc18 H
                  refine xo_0 rfl ?_
                  refine xr_42 rfl rfl ?_
                  refine xo_10 rfl (by decide) ?_
                  refine xo_0 rfl ?_
                  refine xr_41 rfl ?_
                  refine xo_7 rfl rfl ?_
                  refine xo_4 (lv' := [some (.ref 0), some (.int x1), some (.int x2), some (.int (x3 + 0)), some (.int x4)]) rfl rfl rfl ?_
                  refine xo_9 (z := (x4 + 1)) (lv' := [some (.ref 0), some (.int x1), some (.int x2), some (.int (x3 + 0)), some (.int (x4 + 1))]) rfl rfl rfl rfl rfl ?_
                  refine xo_12 rfl ?_
                  exact H
            · rw [if_neg hc15] at H
              refine xo_52 (t := 124) rfl ?_ ?_
              · have e0 : ¬ (x2).toInt = 0 := fun e => hc2 (Int32.toInt_inj.mp e)
                have e1 : ¬ (x2).toInt = 1 := fun e => hc5 (Int32.toInt_inj.mp e)
                have e2 : ¬ (x2).toInt = 2 := fun e => hc8 (Int32.toInt_inj.mp e)
                have e3 : ¬ (x2).toInt = 3 := fun e => hc12 (Int32.toInt_inj.mp e)
                have e4 : ¬ (x2).toInt = 4 := fun e => hc15 (Int32.toInt_inj.mp e)
                rw [if_pos (by show (x2).toInt < 0 ∨ 4 < (x2).toInt; omega)]
                rfl
              · refine xo_0 rfl ?_
                refine xr_41 rfl ?_
                refine xo_7 rfl rfl ?_
                refine xo_4 (lv' := [some (.ref 0), some (.int x1), some (.int x2), some (.int (x3 + 0)), some (.int x4)]) rfl rfl rfl ?_
                refine xo_9 (z := (x4 + 1)) (lv' := [some (.ref 0), some (.int x1), some (.int x2), some (.int (x3 + 0)), some (.int (x4 + 1))]) rfl rfl rfl rfl rfl ?_
                refine xo_12 rfl ?_
                exact H
  · intro hc1 H
    refine xo_1 rfl rfl ?_
    refine xo_41 rfl ?_
    exact H
theorem wr_55 {x1 : Int32} {x2 : Int32} {x3 : Int32} (H : am_X L xs d 56 0 [some (.ref 0), some (.int x1), some (.int x2), some (.int x3)] [] am_C0 h o g (fun w h' o' g' => ∃ y, w = some (.int y) ∧ Q (some (.int 0)) h' (am_setL o' 108 0 y.toInt64) g') (fun E h' o' g' => if E = 0 then Q (some (.int 1)) h' o' g' else T E h' o' g')) : am_X L xs (d + 1) 55 0 [some (.ref 0), some (.int x1), some (.int x2), some (.int x3), some (.ref 108), none] [] am_C0 h o g Q T := by
  refine xo_2 rfl rfl ?_
  refine xo_0 rfl ?_
  refine xo_2 rfl rfl ?_
  refine xo_1 rfl rfl ?_
  refine xo_1 rfl rfl ?_
  refine xo_1 rfl rfl ?_
  refine ch_56 rfl rfl (am_X.mono H ?_ ?_)
  · rintro w h o g ⟨y, rfl, H⟩
    show am_X L xs (d + 1) 55 10 [some (.ref 0), some (.int x1), some (.int x2), some (.int x3), some (.ref 108), none] [.int y, .int 0, .ref 108] am_C0 h o g Q T
    refine xo_32 rfl ?_
    refine xo_26 rfl ca_108 (am_ix.lit rfl) ?_
    refine xo_12 rfl ?_
    refine xo_0 rfl ?_
    refine xo_41 rfl ?_
    exact H
  · intro E h o g H
    by_cases hE0 : E = 0
    · rw [if_pos hE0] at H
      subst hE0
      show am_X L xs (d + 1) 55 17 [some (.ref 0), some (.int x1), some (.int x2), some (.int x3), some (.ref 108), none] [] am_C0 h o g Q T
      refine xo_0 rfl ?_
      refine xo_41 rfl ?_
      exact H
    · rw [if_neg hE0] at H
      have e : am_hand (am_hd 55) 7 E = none := by
        show am_hand [(0, 12, 0, 17, 5)] 7 E = none
        simp only [am_hand]
        rw [if_neg (fun q => hE0 q.2.2.symm)]
      show (match am_hand (am_hd 55) 7 E with | none => T E h o g | some (pc', j) => am_X L xs (d + 1) 55 pc' (am_st1 [some (.ref 0), some (.int x1), some (.int x2), some (.int x3), some (.ref 108), none] j none) [] am_C0 h o g Q T)
      rw [e]
      exact H
theorem sm_56 {x1 : Int32} {x2 : Int32} {x3 : Int32} (H : (if x1 < 0 then T 0 h o (g + 1) else (if x1 < (h 3 2) then (if x2 < 0 then T 0 h o (g + 1) else (if 99 < x2 then T 0 h o (g + 1) else (if x3 < 0 then T 0 h o (g + 1) else (if 9999 < x3 then T 0 h o (g + 1) else am_X L xs d 60 0 [some (.ref 3), some (.int x1), some (.int x2), some (.int 1), some (.int x3), none, none, none] [] am_C0 h o g (fun w h' o' g' => am_X L xs (d + 1) 56 26 [some (.ref 0), some (.int x1), some (.int x2), some (.int x3)] (w.toList ++ []) am_C0 h' o' g' Q T) T)))) else T 0 h o (g + 1)))) : am_X L xs (d + 1) 56 0 [some (.ref 0), some (.int x1), some (.int x2), some (.int x3)] [] am_C0 h o g Q T := by
  refine xo_2 rfl rfl ?_
  refine xo_1 rfl rfl ?_
  refine cl_57_0 rfl hd_56 rfl ?_
  refine xo_1 rfl rfl ?_
  refine xo_10lt rfl (am_sp ?_ ?_ H)
  · intro hc1 H
    refine xo_45 rfl (Nat.le_of_ble_eq_true rfl) ?_
    exact H
  · intro hc1 H
    refine xo_1 rfl rfl ?_
    refine xo_2 rfl rfl ?_
    refine xo_13r rfl cr_0_1 ?_
    refine xo_13 rfl cf_3_2 ?_
    refine xo_11lt rfl (am_sp ?_ ?_ H)
    · intro hc2 H
      refine xr_44 rfl ?_
      refine xo_2 rfl rfl ?_
      refine xo_1 rfl rfl ?_
      refine cl_58_0 rfl hd_56 rfl ?_
      refine xo_1 rfl rfl ?_
      refine xo_10lt rfl (am_sp ?_ ?_ H)
      · intro hc3 H
        refine xo_45 rfl (Nat.le_of_ble_eq_true rfl) ?_
        exact H
      · intro hc3 H
        refine xo_1 rfl rfl ?_
        refine xo_0 rfl ?_
        refine xo_11le rfl (am_sp ?_ ?_ H)
        · intro hc4 H
          refine xo_45 rfl (Nat.le_of_ble_eq_true rfl) ?_
          exact H
        · intro hc4 H
          refine xr_44 rfl ?_
          refine xo_2 rfl rfl ?_
          refine xo_1 rfl rfl ?_
          refine cl_59_0 rfl hd_56 rfl ?_
          refine xo_1 rfl rfl ?_
          refine xo_10lt rfl (am_sp ?_ ?_ H)
          · intro hc5 H
            refine xo_45 rfl (Nat.le_of_ble_eq_true rfl) ?_
            exact H
          · intro hc5 H
            refine xo_1 rfl rfl ?_
            refine xo_0 rfl ?_
            refine xo_11le rfl (am_sp ?_ ?_ H)
            · intro hc6 H
              refine xo_45 rfl (Nat.le_of_ble_eq_true rfl) ?_
              exact H
            · intro hc6 H
              refine xr_44 rfl ?_
              refine xo_2 rfl rfl ?_
              refine xo_13r rfl cr_0_1 ?_
              refine xo_1 rfl rfl ?_
              refine xo_1 rfl rfl ?_
              refine xo_0 rfl ?_
              refine xo_1 rfl rfl ?_
              refine cl_60_3 rfl hd_56 rfl ?_
              exact H
    · intro hc2 H
      refine xo_45 rfl (Nat.le_of_ble_eq_true rfl) ?_
      exact H
theorem sm_56_26 {q0 : Option Value} {q1 : Option Value} {q2 : Option Value} {q3 : Option Value} {z0 : Int32} (hq0 : am_nl q0 = true) (hq1 : am_nl q1 = true) (hq2 : am_nl q2 = true) (hq3 : am_nl q3 = true) (H : Q (some (.int z0)) h o g) : am_X L xs d 56 26 [q0, q1, q2, q3] [.int z0] am_C0 h o g Q T := by
  refine xo_41 rfl ?_
  exact H
theorem sm_60 {x1 : Int32} {x2 : Int32} {x3 : Int32} {x4 : Int32} (H : (am_ix x1 5 ∧ (if (h 9 x1.toNatClampNeg) = 2 then Q (some (.int ((if 0 < ((h 10 x1.toNatClampNeg) - (((h 11 x1.toNatClampNeg) * x4) / 10)) then ((h 10 x1.toNatClampNeg) - (((h 11 x1.toNatClampNeg) * x4) / 10)) else 0) + (fn_61 h 6)))) h o g else am_X L xs (d + 1) 60 52 [some (.ref 3), some (.int x1), some (.int x2), some (.int x3), some (.int x4), some (.int (if 0 < ((h 10 x1.toNatClampNeg) - (((h 11 x1.toNatClampNeg) * x4) / 10)) then ((h 10 x1.toNatClampNeg) - (((h 11 x1.toNatClampNeg) * x4) / 10)) else 0)), some (.int (fn_61 h 6)), some (.int 0)] [] am_C0 h o g Q T))) : am_X L xs (d + 1) 60 0 [some (.ref 3), some (.int x1), some (.int x2), some (.int x3), some (.int x4), none, none, none] [] am_C0 h o g Q T := by
  refine xo_0 rfl ?_
  refine xo_2 rfl rfl ?_
  refine xo_13r rfl cr_3_9 ?_
  refine xo_1 rfl rfl ?_
  obtain ⟨hg1, H⟩ := H
  refine xo_17 rfl ca_10 hg1 ?_
  refine xo_2 rfl rfl ?_
  refine xo_13r rfl cr_3_10 ?_
  refine xo_1 rfl rfl ?_
  refine xo_17 rfl ca_11 hg1 ?_
  refine xo_1 rfl rfl ?_
  refine xo_7 rfl rfl ?_
  refine xo_0 rfl ?_
  refine xo_7d rfl (by decide) ?_
  refine xo_7 rfl rfl ?_
  refine xo_47x rfl (Nat.le_of_ble_eq_true rfl) ?_
  refine xo_4 (lv' := [some (.ref 3), some (.int x1), some (.int x2), some (.int x3), some (.int x4), some (.int (if 0 < ((h 10 x1.toNatClampNeg) - (((h 11 x1.toNatClampNeg) * x4) / 10)) then ((h 10 x1.toNatClampNeg) - (((h 11 x1.toNatClampNeg) * x4) / 10)) else 0)), none, none]) rfl rfl rfl ?_
  refine xo_2 rfl rfl ?_
  refine xo_0 rfl ?_
  refine cl_61_3 rfl hd_60 rfl (sf_61 ?_)
  show am_X L xs (d + 1) 60 31 [some (.ref 3), some (.int x1), some (.int x2), some (.int x3), some (.int x4), some (.int (if 0 < ((h 10 x1.toNatClampNeg) - (((h 11 x1.toNatClampNeg) * x4) / 10)) then ((h 10 x1.toNatClampNeg) - (((h 11 x1.toNatClampNeg) * x4) / 10)) else 0)), none, none] [.int (fn_61 h 6)] am_C0 h o g Q T
  refine xo_4 (lv' := [some (.ref 3), some (.int x1), some (.int x2), some (.int x3), some (.int x4), some (.int (if 0 < ((h 10 x1.toNatClampNeg) - (((h 11 x1.toNatClampNeg) * x4) / 10)) then ((h 10 x1.toNatClampNeg) - (((h 11 x1.toNatClampNeg) * x4) / 10)) else 0)), some (.int (fn_61 h 6)), none]) rfl rfl rfl ?_
  refine xo_2 rfl rfl ?_
  refine xo_13r rfl cr_3_8 ?_
  refine xo_1 rfl rfl ?_
  refine xo_17 rfl ca_9 hg1 ?_
  refine xo_0 rfl ?_
  refine xo_11ne rfl (am_sp ?_ ?_ H)
  · intro hc2 H
    refine xo_1 rfl rfl ?_
    refine xo_1 rfl rfl ?_
    refine xo_7 rfl rfl ?_
    refine xo_41 rfl ?_
    exact H
  · intro hc2 H
    refine xo_0 rfl ?_
    refine xo_4 (lv' := [some (.ref 3), some (.int x1), some (.int x2), some (.int x3), some (.int x4), some (.int (if 0 < ((h 10 x1.toNatClampNeg) - (((h 11 x1.toNatClampNeg) * x4) / 10)) then ((h 10 x1.toNatClampNeg) - (((h 11 x1.toNatClampNeg) * x4) / 10)) else 0)), some (.int (fn_61 h 6)), some (.int 0)]) rfl rfl rfl ?_
    exact H
theorem sm_60_52 {x1 : Int32} {x2 : Int32} {x3 : Int32} {q4 : Option Value} {x5 : Int32} {x6 : Int32} {x7 : Int32} (hq4 : am_nl q4 = true) (H : (if x7 < x3 then am_X L xs (d + 1) 60 52 [some (.ref 3), some (.int x1), some (.int x2), some (.int x3), q4, some (.int x5), some (.int (if (fn_61 h (x2 + x7)) < x6 then (fn_61 h (x2 + x7)) else x6)), some (.int (x7 + 1))] [] am_C0 h o g Q T else (am_ix x1 5 ∧ (if (h 9 x1.toNatClampNeg) = 1 then Q (some (.int ((x5 + x6) + 2))) h o g else Q (some (.int ((x5 + x6) + 0))) h o g)))) : am_X L xs (d + 1) 60 52 [some (.ref 3), some (.int x1), some (.int x2), some (.int x3), q4, some (.int x5), some (.int x6), some (.int x7)] [] am_C0 h o g Q T := by
  refine xo_1 rfl rfl ?_
  refine xo_1 rfl rfl ?_
  refine xo_11ge rfl (am_sp ?_ ?_ H)
  · intro hc1 H
    refine xo_1 rfl rfl ?_
    refine xo_2 rfl rfl ?_
    refine xo_1 rfl rfl ?_
    refine xo_1 rfl rfl ?_
    refine xo_7 rfl rfl ?_
    refine cl_61_3 rfl hd_60 rfl (sf_61 ?_)
    show am_X L xs (d + 1) 60 68 [some (.ref 3), some (.int x1), some (.int x2), some (.int x3), q4, some (.int x5), some (.int x6), some (.int x7)] [.int (fn_61 h (x2 + x7)), .int x6] am_C0 h o g Q T
    refine xo_47n rfl (Nat.le_of_ble_eq_true rfl) ?_
    refine xo_4 (lv' := [some (.ref 3), some (.int x1), some (.int x2), some (.int x3), q4, some (.int x5), some (.int (if (fn_61 h (x2 + x7)) < x6 then (fn_61 h (x2 + x7)) else x6)), some (.int x7)]) rfl rfl rfl ?_
    refine xo_9 (z := (x7 + 1)) (lv' := [some (.ref 3), some (.int x1), some (.int x2), some (.int x3), q4, some (.int x5), some (.int (if (fn_61 h (x2 + x7)) < x6 then (fn_61 h (x2 + x7)) else x6)), some (.int (x7 + 1))]) rfl rfl rfl rfl rfl ?_
    refine xo_12 rfl ?_
    exact H
  · intro hc1 H
    refine xo_1 rfl rfl ?_
    refine xo_1 rfl rfl ?_
    refine xo_7 rfl rfl ?_
    refine xo_2 rfl rfl ?_
    refine xo_13r rfl cr_3_8 ?_
    refine xo_1 rfl rfl ?_
    obtain ⟨hg2, H⟩ := H
    refine xo_17 rfl ca_9 hg2 ?_
    refine xo_0 rfl ?_
    refine xo_11ne rfl (am_sp ?_ ?_ H)
    · intro hc3 H
      refine xo_0 rfl ?_
      refine xo_12 rfl ?_
      refine xo_7 rfl rfl ?_
      refine xo_41 rfl ?_
      exact H
    · intro hc3 H
      refine xo_0 rfl ?_
      refine xo_7 rfl rfl ?_
      refine xo_41 rfl ?_
      exact H
theorem wr_62 {x1 : Int32} {x2 : Int32} (H : am_X L xs d 63 0 [some (.ref 0), some (.int x1), some (.int x2)] [] am_C0 h o g (fun w h' o' g' => ∃ y, w = some (.int y) ∧ (if y = 0 then Q (some (.int 0)) h' (am_setL o' 108 0 (Int64.ofNat 0)) g' else Q (some (.int 0)) h' (am_setL o' 108 0 (Int64.ofNat 1)) g')) (fun E h' o' g' => if E = 0 then Q (some (.int 1)) h' o' g' else T E h' o' g')) : am_X L xs (d + 1) 62 0 [some (.ref 0), some (.int x1), some (.int x2), some (.ref 108), none] [] am_C0 h o g Q T := by
  refine xo_2 rfl rfl ?_
  refine xo_0 rfl ?_
  refine xo_2 rfl rfl ?_
  refine xo_1 rfl rfl ?_
  refine xo_1 rfl rfl ?_
  refine ch_63 rfl rfl (am_X.mono H ?_ ?_)
  · rintro w h o g ⟨y, rfl, H⟩
    show am_X L xs (d + 1) 62 8 [some (.ref 0), some (.int x1), some (.int x2), some (.ref 108), none] [.int y, .int 0, .ref 108] am_C0 h o g Q T
    refine xo_10eq rfl (am_sp ?_ ?_ H)
    · intro hc1 H
      refine xo_31 rfl ?_
      refine xo_26 rfl ca_108 (am_ix.lit rfl) ?_
      refine xo_12 rfl ?_
      refine xo_0 rfl ?_
      refine xo_41 rfl ?_
      exact H
    · intro hc1 H
      refine xo_31 rfl ?_
      refine xo_12 rfl ?_
      refine xo_26 rfl ca_108 (am_ix.lit rfl) ?_
      refine xo_12 rfl ?_
      refine xo_0 rfl ?_
      refine xo_41 rfl ?_
      exact H
  · intro E h o g H
    by_cases hE0 : E = 0
    · rw [if_pos hE0] at H
      subst hE0
      show am_X L xs (d + 1) 62 22 [some (.ref 0), some (.int x1), some (.int x2), some (.ref 108), none] [] am_C0 h o g Q T
      refine xo_0 rfl ?_
      refine xo_41 rfl ?_
      exact H
    · rw [if_neg hE0] at H
      have e : am_hand (am_hd 62) 5 E = none := by
        show am_hand [(0, 17, 0, 22, 4)] 5 E = none
        simp only [am_hand]
        rw [if_neg (fun q => hE0 q.2.2.symm)]
      show (match am_hand (am_hd 62) 5 E with | none => T E h o g | some (pc', j) => am_X L xs (d + 1) 62 pc' (am_st1 [some (.ref 0), some (.int x1), some (.int x2), some (.ref 108), none] j none) [] am_C0 h o g Q T)
      rw [e]
      exact H
theorem sm_63 {x1 : Int32} {x2 : Int32} (H : (if x1 < 0 then T 0 h o (g + 1) else (if x1 < (h 3 0) then (if x2 < 0 then Q (some (.int 0)) h o g else (if 99 < x2 then Q (some (.int 0)) h o g else (am_ix x1 5 ∧ Q (some (.int 1)) (am_set h 30 x1.toNatClampNeg x2) o g))) else T 0 h o (g + 1)))) : am_X L xs (d + 1) 63 0 [some (.ref 0), some (.int x1), some (.int x2)] [] am_C0 h o g Q T := by
  refine xo_2 rfl rfl ?_
  refine xo_1 rfl rfl ?_
  refine cl_45_0 rfl hd_63 rfl ?_
  refine xo_1 rfl rfl ?_
  refine xo_10lt rfl (am_sp ?_ ?_ H)
  · intro hc1 H
    refine xo_45 rfl (Nat.le_of_ble_eq_true rfl) ?_
    exact H
  · intro hc1 H
    refine xo_1 rfl rfl ?_
    refine xo_2 rfl rfl ?_
    refine xo_13r rfl cr_0_1 ?_
    refine xo_13 rfl cf_3_0 ?_
    refine xo_11lt rfl (am_sp ?_ ?_ H)
    · intro hc2 H
      refine xr_44 rfl ?_
      refine xo_1 rfl rfl ?_
      refine xo_10lt rfl (am_sp ?_ ?_ H)
      · intro hc3 H
        refine xo_0 rfl ?_
        refine xo_42 rfl rfl ?_
        exact H
      · intro hc3 H
        refine xo_1 rfl rfl ?_
        refine xo_0 rfl ?_
        refine xo_11le rfl (am_sp ?_ ?_ H)
        · intro hc4 H
          refine xo_0 rfl ?_
          refine xo_42 rfl rfl ?_
          exact H
        · intro hc4 H
          refine xo_2 rfl rfl ?_
          refine xo_13r rfl cr_0_3 ?_
          refine xo_13r rfl cr_23_7 ?_
          refine xo_1 rfl rfl ?_
          refine xo_1 rfl rfl ?_
          obtain ⟨hg5, H⟩ := H
          refine xo_22 rfl ca_30 hg5 ?_
          refine xo_0 rfl ?_
          refine xo_42 rfl rfl ?_
          exact H
    · intro hc2 H
      refine xo_45 rfl (Nat.le_of_ble_eq_true rfl) ?_
      exact H
theorem wr_64 {x1 : Int32} {x2 : Int32} {x3 : Int32} {x4 : Int32} (H : am_X L xs d 65 0 [some (.ref 0), some (.int x1), some (.int x2), some (.int x3), some (.int x4)] [] am_C0 h o g (fun w h' o' g' => ∃ y, w = some (.int y) ∧ Q (some (.int 0)) h' (am_setL o' 108 0 y.toInt64) g') (fun E h' o' g' => if E = 0 then Q (some (.int 1)) h' o' g' else T E h' o' g')) : am_X L xs (d + 1) 64 0 [some (.ref 0), some (.int x1), some (.int x2), some (.int x3), some (.int x4), some (.ref 108), none] [] am_C0 h o g Q T := by
  refine xo_2 rfl rfl ?_
  refine xo_0 rfl ?_
  refine xo_2 rfl rfl ?_
  refine xo_1 rfl rfl ?_
  refine xo_1 rfl rfl ?_
  refine xo_1 rfl rfl ?_
  refine xo_1 rfl rfl ?_
  refine ch_65 rfl rfl (am_X.mono H ?_ ?_)
  · rintro w h o g ⟨y, rfl, H⟩
    show am_X L xs (d + 1) 64 12 [some (.ref 0), some (.int x1), some (.int x2), some (.int x3), some (.int x4), some (.ref 108), none] [.int y, .int 0, .ref 108] am_C0 h o g Q T
    refine xo_32 rfl ?_
    refine xo_26 rfl ca_108 (am_ix.lit rfl) ?_
    refine xo_12 rfl ?_
    refine xo_0 rfl ?_
    refine xo_41 rfl ?_
    exact H
  · intro E h o g H
    by_cases hE0 : E = 0
    · rw [if_pos hE0] at H
      subst hE0
      show am_X L xs (d + 1) 64 19 [some (.ref 0), some (.int x1), some (.int x2), some (.int x3), some (.int x4), some (.ref 108), none] [] am_C0 h o g Q T
      refine xo_0 rfl ?_
      refine xo_41 rfl ?_
      exact H
    · rw [if_neg hE0] at H
      have e : am_hand (am_hd 64) 9 E = none := by
        show am_hand [(0, 14, 0, 19, 6)] 9 E = none
        simp only [am_hand]
        rw [if_neg (fun q => hE0 q.2.2.symm)]
      show (match am_hand (am_hd 64) 9 E with | none => T E h o g | some (pc', j) => am_X L xs (d + 1) 64 pc' (am_st1 [some (.ref 0), some (.int x1), some (.int x2), some (.int x3), some (.int x4), some (.ref 108), none] j none) [] am_C0 h o g Q T)
      rw [e]
      exact H
theorem sm_65 {x1 : Int32} {x2 : Int32} {x3 : Int32} {x4 : Int32} (H : (if x1 < 0 then T 0 h o (g + 1) else (if x1 < (h 3 1) then (if x2 < 0 then T 0 h o (g + 1) else (if x2 < (h 3 0) then (if (h 23 0) < 80 then (if x3 < 1 then Q (some (.int (-1))) (am_set h 33 1 ((h 33 1) + 1)) o g else (if 60 < x3 then Q (some (.int (-1))) (am_set h 33 1 ((h 33 1) + 1)) o g else am_X L xs d 68 0 [some (.ref 23), some (.int x1), some (.int x2), none] [] am_C0 h o g (fun w h' o' g' => am_X L xs (d + 1) 65 36 [some (.ref 0), some (.int x1), some (.int x2), some (.int x3), some (.int x4)] (w.toList ++ []) am_C0 h' o' g' Q T) T)) else Q (some (.int (-1))) (am_set h 33 1 ((h 33 1) + 1)) o g) else T 0 h o (g + 1))) else T 0 h o (g + 1)))) : am_X L xs (d + 1) 65 0 [some (.ref 0), some (.int x1), some (.int x2), some (.int x3), some (.int x4)] [] am_C0 h o g Q T := by
  refine xo_2 rfl rfl ?_
  refine xo_1 rfl rfl ?_
  refine cl_50_0 rfl hd_65 rfl ?_
  refine xo_1 rfl rfl ?_
  refine xo_10lt rfl (am_sp ?_ ?_ H)
  · intro hc1 H
    refine xo_45 rfl (Nat.le_of_ble_eq_true rfl) ?_
    exact H
  · intro hc1 H
    refine xo_1 rfl rfl ?_
    refine xo_2 rfl rfl ?_
    refine xo_13r rfl cr_0_1 ?_
    refine xo_13 rfl cf_3_1 ?_
    refine xo_11lt rfl (am_sp ?_ ?_ H)
    · intro hc2 H
      refine xr_44 rfl ?_
      refine xo_2 rfl rfl ?_
      refine xo_1 rfl rfl ?_
      refine cl_45_0 rfl hd_65 rfl ?_
      refine xo_1 rfl rfl ?_
      refine xo_10lt rfl (am_sp ?_ ?_ H)
      · intro hc3 H
        refine xo_45 rfl (Nat.le_of_ble_eq_true rfl) ?_
        exact H
      · intro hc3 H
        refine xo_1 rfl rfl ?_
        refine xo_2 rfl rfl ?_
        refine xo_13r rfl cr_0_1 ?_
        refine xo_13 rfl cf_3_0 ?_
        refine xo_11lt rfl (am_sp ?_ ?_ H)
        · intro hc4 H
          refine xr_44 rfl ?_
          refine xo_2 rfl rfl ?_
          refine xo_13r rfl cr_0_3 ?_
          refine cl_66_23 rfl hd_65 rfl ?_
          refine xo_2 rfl rfl ?_
          refine xo_13 rfl cf_23_0 ?_
          refine xo_0 rfl ?_
          refine xo_11ge rfl (am_sp ?_ ?_ H)
          · intro hc5 H
            refine xo_0 rfl ?_
            refine xo_12 rfl ?_
            refine xr_42 rfl rfl ?_
            refine xo_10n rfl (by decide) ?_
            refine xo_1 rfl rfl ?_
            refine cl_67 rfl hd_65 rfl ?_
            refine xo_1 rfl rfl ?_
            refine xo_0 rfl ?_
            refine xo_11lt rfl (am_sp ?_ ?_ H)
            · intro hc6 H
              refine xo_0 rfl ?_
              refine xr_42 rfl rfl ?_
              refine xo_10 rfl (by decide) ?_
              refine xo_2 rfl rfl ?_
              refine xo_13r rfl cr_0_3 ?_
              refine xo_0 rfl ?_
              refine cl_38_23 rfl hd_65 rfl ?_
              refine xo_2 rfl rfl ?_
              refine xo_13r rfl cr_23_10 ?_
              refine xo_1 rfl rfl ?_
              refine xo_29 rfl ⟨rfl, rfl⟩ ?_
              refine xo_17 rfl ca_33 (am_ix.lit rfl) ?_
              refine xo_0 rfl ?_
              refine xo_7 rfl rfl ?_
              refine xo_22 rfl ca_33 (am_ix.lit rfl) ?_
              refine xo_0 rfl ?_
              refine xr_41 rfl ?_
              refine xo_41 rfl ?_
              exact H
            · intro hc6 H
              refine xo_1 rfl rfl ?_
              refine xo_0 rfl ?_
              refine xo_11gt rfl (am_sp ?_ ?_ H)
              · intro hc7 H
                refine xo_0 rfl ?_
                refine xr_42 rfl rfl ?_
                refine xo_10 rfl (by decide) ?_
                refine xo_2 rfl rfl ?_
                refine xo_13r rfl cr_0_3 ?_
                refine xo_0 rfl ?_
                refine cl_38_23 rfl hd_65 rfl ?_
                refine xo_2 rfl rfl ?_
                refine xo_13r rfl cr_23_10 ?_
                refine xo_1 rfl rfl ?_
                refine xo_29 rfl ⟨rfl, rfl⟩ ?_
                refine xo_17 rfl ca_33 (am_ix.lit rfl) ?_
                refine xo_0 rfl ?_
                refine xo_7 rfl rfl ?_
                refine xo_22 rfl ca_33 (am_ix.lit rfl) ?_
                refine xo_0 rfl ?_
                refine xr_41 rfl ?_
                refine xo_41 rfl ?_
                exact H
              · intro hc7 H
                refine xo_0 rfl ?_
                refine xo_12 rfl ?_
                refine xr_42 rfl rfl ?_
                refine xo_10n rfl (by decide) ?_
                refine xo_2 rfl rfl ?_
                refine xo_13r rfl cr_0_3 ?_
                refine xo_1 rfl rfl ?_
                refine xo_1 rfl rfl ?_
                refine cl_68_23 rfl hd_65 rfl ?_
                exact H
          · intro hc5 H
            refine xo_0 rfl ?_
            refine xr_42 rfl rfl ?_
            refine xo_10 rfl (by decide) ?_
            refine xo_2 rfl rfl ?_
            refine xo_13r rfl cr_0_3 ?_
            refine xo_0 rfl ?_
            refine cl_38_23 rfl hd_65 rfl ?_
            refine xo_2 rfl rfl ?_
            refine xo_13r rfl cr_23_10 ?_
            refine xo_1 rfl rfl ?_
            refine xo_29 rfl ⟨rfl, rfl⟩ ?_
            refine xo_17 rfl ca_33 (am_ix.lit rfl) ?_
            refine xo_0 rfl ?_
            refine xo_7 rfl rfl ?_
            refine xo_22 rfl ca_33 (am_ix.lit rfl) ?_
            refine xo_0 rfl ?_
            refine xr_41 rfl ?_
            refine xo_41 rfl ?_
            exact H
        · intro hc4 H
          refine xo_45 rfl (Nat.le_of_ble_eq_true rfl) ?_
          exact H
    · intro hc2 H
      refine xo_45 rfl (Nat.le_of_ble_eq_true rfl) ?_
      exact H
theorem sm_65_36 {x1 : Int32} {x2 : Int32} {x3 : Int32} {x4 : Int32} {z0 : Int32} (H : (if z0 = 0 then am_X L xs d 69 0 [some (.ref 0), some (.int x2), some (.int x3), some (.int x4), none] [] am_C0 h o g (fun w h' o' g' => am_X L xs (d + 1) 65 47 [some (.ref 0), some (.int x1), some (.int x2), some (.int x3), some (.int x4)] (w.toList ++ []) am_C0 h' o' g' Q T) T else Q (some (.int (-1))) (am_set h 33 1 ((h 33 1) + 1)) o g)) : am_X L xs (d + 1) 65 36 [some (.ref 0), some (.int x1), some (.int x2), some (.int x3), some (.int x4)] [.int z0] am_C0 h o g Q T := by
  refine xo_10ne rfl (am_sp ?_ ?_ H)
  · intro hc1 H
    refine xo_2 rfl rfl ?_
    refine xo_1 rfl rfl ?_
    refine xo_1 rfl rfl ?_
    refine xo_1 rfl rfl ?_
    refine cl_69_0 rfl hd_65 rfl ?_
    exact H
  · intro hc1 H
    refine xo_2 rfl rfl ?_
    refine xo_13r rfl cr_0_3 ?_
    refine xo_0 rfl ?_
    refine cl_38_23 rfl hd_65 rfl ?_
    refine xo_2 rfl rfl ?_
    refine xo_13r rfl cr_23_10 ?_
    refine xo_1 rfl rfl ?_
    refine xo_29 rfl ⟨rfl, rfl⟩ ?_
    refine xo_17 rfl ca_33 (am_ix.lit rfl) ?_
    refine xo_0 rfl ?_
    refine xo_7 rfl rfl ?_
    refine xo_22 rfl ca_33 (am_ix.lit rfl) ?_
    refine xo_0 rfl ?_
    refine xr_41 rfl ?_
    refine xo_41 rfl ?_
    exact H
theorem sm_65_47 {x1 : Int32} {x2 : Int32} {x3 : Int32} {x4 : Int32} {z0 : Int32} (H : (if z0 = 0 then Q (some (.int (-1))) (am_set h 33 1 ((h 33 1) + 1)) o g else (am_ix (h 23 0) 80 ∧ Q (some (.int ((h 23 0) + 1))) (am_set (am_set (am_set (am_set (am_set (am_set (am_set h 24 ((h 23 0).toNatClampNeg) x1) 25 ((h 23 0).toNatClampNeg) (-1)) 26 ((h 23 0).toNatClampNeg) x2) 27 ((h 23 0).toNatClampNeg) x3) 28 ((h 23 0).toNatClampNeg) (vp_nar .boolean x4)) 29 ((h 23 0).toNatClampNeg) (h 12 3)) 23 0 ((h 23 0) + 1)) o g))) : am_X L xs (d + 1) 65 47 [some (.ref 0), some (.int x1), some (.int x2), some (.int x3), some (.int x4)] [.int z0] am_C0 h o g Q T := by
  refine xo_10ne rfl (am_sp ?_ ?_ H)
  · intro hc1 H
    refine xo_2 rfl rfl ?_
    refine xo_13r rfl cr_0_3 ?_
    refine xo_0 rfl ?_
    refine cl_38_23 rfl hd_65 rfl ?_
    refine xo_2 rfl rfl ?_
    refine xo_13r rfl cr_23_10 ?_
    refine xo_1 rfl rfl ?_
    refine xo_29 rfl ⟨rfl, rfl⟩ ?_
    refine xo_17 rfl ca_33 (am_ix.lit rfl) ?_
    refine xo_0 rfl ?_
    refine xo_7 rfl rfl ?_
    refine xo_22 rfl ca_33 (am_ix.lit rfl) ?_
    refine xo_0 rfl ?_
    refine xr_41 rfl ?_
    refine xo_41 rfl ?_
    exact H
  · intro hc1 H
    refine xo_2 rfl rfl ?_
    refine xo_13r rfl cr_0_3 ?_
    refine xo_1 rfl rfl ?_
    refine xo_0 rfl ?_
    refine xo_1 rfl rfl ?_
    refine xo_1 rfl rfl ?_
    refine xo_1 rfl rfl ?_
    refine xo_2 rfl rfl ?_
    refine xo_13r rfl cr_0_1 ?_
    refine xo_13r rfl cr_3_11 ?_
    refine xo_0 rfl ?_
    refine xo_17 rfl ca_12 (am_ix.lit rfl) ?_
    refine cl_70_23 rfl hd_65 rfl ?_
    refine xo_2 rfl rfl ?_
    refine xo_13r rfl cr_23_1 ?_
    refine xo_2 rfl rfl ?_
    refine xo_13 rfl cf_23_0 ?_
    refine xo_1 rfl rfl ?_
    obtain ⟨hg2, H⟩ := H
    refine xo_22 rfl ca_24 hg2 ?_
    refine xo_2 rfl rfl ?_
    refine xo_13r rfl cr_23_2 ?_
    refine xo_2 rfl rfl ?_
    refine xo_13 rfl cf_23_0 ?_
    refine xo_1 rfl rfl ?_
    refine xo_22 rfl ca_25 hg2 ?_
    refine xo_2 rfl rfl ?_
    refine xo_13r rfl cr_23_3 ?_
    refine xo_2 rfl rfl ?_
    refine xo_13 rfl cf_23_0 ?_
    refine xo_1 rfl rfl ?_
    refine xo_22 rfl ca_26 hg2 ?_
    refine xo_2 rfl rfl ?_
    refine xo_13r rfl cr_23_4 ?_
    refine xo_2 rfl rfl ?_
    refine xo_13 rfl cf_23_0 ?_
    refine xo_1 rfl rfl ?_
    refine xo_22 rfl ca_27 hg2 ?_
    refine xo_2 rfl rfl ?_
    refine xo_13r rfl cr_23_5 ?_
    refine xo_2 rfl rfl ?_
    refine xo_13 rfl cf_23_0 ?_
    refine xo_1 rfl rfl ?_
    refine xo_23b rfl ca_28 hg2 ?_
    refine xo_2 rfl rfl ?_
    refine xo_13r rfl cr_23_6 ?_
    refine xo_2 rfl rfl ?_
    refine xo_13 rfl cf_23_0 ?_
    refine xo_1 rfl rfl ?_
    refine xo_22 rfl ca_29 hg2 ?_
    refine xo_2 rfl rfl ?_
    refine xo_28 rfl rfl ?_
    refine xo_13 rfl cf_23_0 ?_
    refine xo_0 rfl ?_
    refine xo_7 rfl rfl ?_
    refine xo_14 rfl cf_23_0 ?_
    refine xo_2 rfl rfl ?_
    refine xo_13 rfl cf_23_0 ?_
    refine xr_41 rfl ?_
    refine xo_41 rfl ?_
    exact H
theorem sm_68 {x1 : Int32} {x2 : Int32} (H : am_X L xs d 68 2 [some (.ref 23), some (.int x1), some (.int x2), some (.int 0)] [] am_C0 h o g Q T) : am_X L xs d 68 0 [some (.ref 23), some (.int x1), some (.int x2), none] [] am_C0 h o g Q T := by
  refine xo_0 rfl ?_
  refine xo_4 (lv' := [some (.ref 23), some (.int x1), some (.int x2), some (.int 0)]) rfl rfl rfl ?_
  exact H
theorem sm_68_2 {x1 : Int32} {x2 : Int32} {x3 : Int32} (H : (if x3 < (h 23 0) then (am_ix x3 80 ∧ (if (h 25 x3.toNatClampNeg) = (-1) then (if (h 24 x3.toNatClampNeg) = x1 then (if (h 26 x3.toNatClampNeg) = x2 then Q (some (.int 1)) h o g else am_X L xs (d + 1) 68 2 [some (.ref 23), some (.int x1), some (.int x2), some (.int (x3 + 1))] [] am_C0 h o g Q T) else am_X L xs (d + 1) 68 2 [some (.ref 23), some (.int x1), some (.int x2), some (.int (x3 + 1))] [] am_C0 h o g Q T) else am_X L xs (d + 1) 68 2 [some (.ref 23), some (.int x1), some (.int x2), some (.int (x3 + 1))] [] am_C0 h o g Q T)) else Q (some (.int 0)) h o g)) : am_X L xs (d + 1) 68 2 [some (.ref 23), some (.int x1), some (.int x2), some (.int x3)] [] am_C0 h o g Q T := by
  refine xo_1 rfl rfl ?_
  refine xo_2 rfl rfl ?_
  refine xo_13 rfl cf_23_0 ?_
  refine xo_11ge rfl (am_sp ?_ ?_ H)
  · intro hc1 H
    refine xo_2 rfl rfl ?_
    refine xo_1 rfl rfl ?_
    refine xo_1 rfl rfl ?_
    refine cl_53_23 rfl hd_68 rfl ?_
    refine xo_2 rfl rfl ?_
    refine xo_13r rfl cr_23_2 ?_
    refine xo_1 rfl rfl ?_
    obtain ⟨hg2, H⟩ := H
    refine xo_17 rfl ca_25 hg2 ?_
    refine xo_0 rfl ?_
    refine xo_11ne rfl (am_sp ?_ ?_ H)
    · intro hc3 H
      refine xo_2 rfl rfl ?_
      refine xo_13r rfl cr_23_1 ?_
      refine xo_1 rfl rfl ?_
      refine xo_17 rfl ca_24 hg2 ?_
      refine xo_1 rfl rfl ?_
      refine xo_11ne rfl (am_sp ?_ ?_ H)
      · intro hc4 H
        refine xo_0 rfl ?_
        refine xo_12 rfl ?_
        refine xr_42 rfl rfl ?_
        refine xo_10n rfl (by decide) ?_
        refine xo_2 rfl rfl ?_
        refine xo_13r rfl cr_23_3 ?_
        refine xo_1 rfl rfl ?_
        refine xo_17 rfl ca_26 hg2 ?_
        refine xo_1 rfl rfl ?_
        refine xo_11ne rfl (am_sp ?_ ?_ H)
        · intro hc5 H
          refine xo_0 rfl ?_
          refine xo_42 rfl rfl ?_
          exact H
        · intro hc5 H
          refine xo_9 (z := (x3 + 1)) (lv' := [some (.ref 23), some (.int x1), some (.int x2), some (.int (x3 + 1))]) rfl rfl rfl rfl rfl ?_
          refine xo_12 rfl ?_
          exact H
      · intro hc4 H
        refine xo_0 rfl ?_
        refine xr_42 rfl rfl ?_
        refine xo_10 rfl (by decide) ?_
        refine xo_9 (z := (x3 + 1)) (lv' := [some (.ref 23), some (.int x1), some (.int x2), some (.int (x3 + 1))]) rfl rfl rfl rfl rfl ?_
        refine xo_12 rfl ?_
        exact H
    · intro hc3 H
      refine xo_0 rfl ?_
      refine xr_42 rfl rfl ?_
      refine xo_10 rfl (by decide) ?_
      refine xo_9 (z := (x3 + 1)) (lv' := [some (.ref 23), some (.int x1), some (.int x2), some (.int (x3 + 1))]) rfl rfl rfl rfl rfl ?_
      refine xo_12 rfl ?_
      exact H
  · intro hc1 H
    refine xo_0 rfl ?_
    refine xo_42 rfl rfl ?_
    exact H
theorem sm_69 {x1 : Int32} {x2 : Int32} {x3 : Int32} (H : am_X L xs d 46 0 [some (.ref 0), some (.int x1)] [] am_C0 h o g (fun w h' o' g' => am_X L xs (d + 1) 69 5 [some (.ref 0), some (.int x1), some (.int x2), some (.int x3), none] (w.toList ++ []) am_C0 h' o' g' Q T) T) : am_X L xs (d + 1) 69 0 [some (.ref 0), some (.int x1), some (.int x2), some (.int x3), none] [] am_C0 h o g Q T := by
  refine xo_2 rfl rfl ?_
  refine xo_1 rfl rfl ?_
  refine cl_46_0 rfl hd_69 rfl ?_
  exact H
theorem sm_69_5 {q0 : Option Value} {q1 : Option Value} {x2 : Int32} {x3 : Int32} {q4 : Option Value} (hq0 : am_nl q0 = true) (hq1 : am_nl q1 = true) (hq4 : am_nl q4 = true) (H : (if x3 = 0 then (if (if (x2 - 1) < (h 61 1) then (x2 - 1) else (h 61 1)) < (h 61 0) then Q (some (.int 0)) (am_set h 61 1 (if (x2 - 1) < (h 61 1) then (x2 - 1) else (h 61 1))) o g else Q (some (.int 1)) (am_set h 61 1 (if (x2 - 1) < (h 61 1) then (x2 - 1) else (h 61 1))) o g) else (if (h 61 1) < (if (h 61 0) < x2 then x2 else (h 61 0)) then Q (some (.int 0)) (am_set h 61 0 (if (h 61 0) < x2 then x2 else (h 61 0))) o g else Q (some (.int 1)) (am_set h 61 0 (if (h 61 0) < x2 then x2 else (h 61 0))) o g))) : am_X L xs (d + 1) 69 5 [q0, q1, some (.int x2), some (.int x3), q4] [.ref 61] am_C0 h o g Q T := by
  refine xo_5 (lv' := [q0, q1, some (.int x2), some (.int x3), some (.ref 61)]) rfl rfl rfl ?_
  refine xo_2 rfl rfl ?_
  refine xo_1 rfl rfl ?_
  refine xo_1 rfl rfl ?_
  refine cl_18_61 rfl hd_69 rfl ?_
  refine xo_1 rfl rfl ?_
  refine xo_10eq rfl (am_sp ?_ ?_ H)
  · intro hc1 H
    refine xo_2 rfl rfl ?_
    refine xo_2 rfl rfl ?_
    refine xo_13 rfl cf_61_1 ?_
    refine xo_1 rfl rfl ?_
    refine xo_0 rfl ?_
    refine xo_7 rfl rfl ?_
    refine xo_47n rfl (Nat.le_of_ble_eq_true rfl) ?_
    refine xo_14 rfl cf_61_1 ?_
    refine xr_44 rfl ?_
    refine xo_2 rfl rfl ?_
    refine cl_19_61 rfl hd_69 rfl ?_
    refine xo_2 rfl rfl ?_
    refine xo_13 rfl cf_61_0 ?_
    refine xo_2 rfl rfl ?_
    refine xo_13 rfl cf_61_1 ?_
    refine xo_11le rfl (am_sp ?_ ?_ H)
    · intro hc2 H
      refine xo_0 rfl ?_
      refine xo_12 rfl ?_
      refine xr_42 rfl rfl ?_
      refine xo_10 rfl (by decide) ?_
      refine xo_0 rfl ?_
      refine xo_42 rfl rfl ?_
      exact H
    · intro hc2 H
      refine xo_0 rfl ?_
      refine xr_42 rfl rfl ?_
      refine xo_10n rfl (by decide) ?_
      refine xo_0 rfl ?_
      refine xo_12 rfl ?_
      refine xo_42 rfl rfl ?_
      exact H
  · intro hc1 H
    refine xo_2 rfl rfl ?_
    refine xo_2 rfl rfl ?_
    refine xo_13 rfl cf_61_0 ?_
    refine xo_1 rfl rfl ?_
    refine xo_47x rfl (Nat.le_of_ble_eq_true rfl) ?_
    refine xo_14 rfl cf_61_0 ?_
    refine xo_12 rfl ?_
    refine xr_44 rfl ?_
    refine xo_2 rfl rfl ?_
    refine cl_19_61 rfl hd_69 rfl ?_
    refine xo_2 rfl rfl ?_
    refine xo_13 rfl cf_61_0 ?_
    refine xo_2 rfl rfl ?_
    refine xo_13 rfl cf_61_1 ?_
    refine xo_11le rfl (am_sp ?_ ?_ H)
    · intro hc3 H
      refine xo_0 rfl ?_
      refine xo_12 rfl ?_
      refine xr_42 rfl rfl ?_
      refine xo_10 rfl (by decide) ?_
      refine xo_0 rfl ?_
      refine xo_42 rfl rfl ?_
      exact H
    · intro hc3 H
      refine xo_0 rfl ?_
      refine xr_42 rfl rfl ?_
      refine xo_10n rfl (by decide) ?_
      refine xo_0 rfl ?_
      refine xo_12 rfl ?_
      refine xo_42 rfl rfl ?_
      exact H
theorem wr_71 {x1 : Int32} {x2 : Int32} {x3 : Int32} {x4 : Int32} {x5 : Int32} {x6 : Int32} (H : am_X L xs d 72 0 [some (.ref 0), some (.int x1), some (.int x2), some (.int x3), some (.int x4), some (.int x5), some (.int x6)] [] am_C0 h o g (fun w h' o' g' => ∃ y, w = some (.int y) ∧ Q (some (.int 0)) h' (am_setL o' 108 0 y.toInt64) g') (fun E h' o' g' => if E = 0 then Q (some (.int 1)) h' o' g' else T E h' o' g')) : am_X L xs (d + 1) 71 0 [some (.ref 0), some (.int x1), some (.int x2), some (.int x3), some (.int x4), some (.int x5), some (.int x6), some (.ref 108), none] [] am_C0 h o g Q T := by
  refine xo_2 rfl rfl ?_
  refine xo_0 rfl ?_
  refine xo_2 rfl rfl ?_
  refine xo_1 rfl rfl ?_
  refine xo_1 rfl rfl ?_
  refine xo_1 rfl rfl ?_
  refine xo_1 rfl rfl ?_
  refine xo_1 rfl rfl ?_
  refine xo_1 rfl rfl ?_
  refine ch_72 rfl rfl (am_X.mono H ?_ ?_)
  · rintro w h o g ⟨y, rfl, H⟩
    show am_X L xs (d + 1) 71 16 [some (.ref 0), some (.int x1), some (.int x2), some (.int x3), some (.int x4), some (.int x5), some (.int x6), some (.ref 108), none] [.int y, .int 0, .ref 108] am_C0 h o g Q T
    refine xo_32 rfl ?_
    refine xo_26 rfl ca_108 (am_ix.lit rfl) ?_
    refine xo_12 rfl ?_
    refine xo_0 rfl ?_
    refine xo_41 rfl ?_
    exact H
  · intro E h o g H
    by_cases hE0 : E = 0
    · rw [if_pos hE0] at H
      subst hE0
      show am_X L xs (d + 1) 71 23 [some (.ref 0), some (.int x1), some (.int x2), some (.int x3), some (.int x4), some (.int x5), some (.int x6), some (.ref 108), none] [] am_C0 h o g Q T
      refine xo_0 rfl ?_
      refine xo_41 rfl ?_
      exact H
    · rw [if_neg hE0] at H
      have e : am_hand (am_hd 71) 13 E = none := by
        show am_hand [(0, 18, 0, 23, 8)] 13 E = none
        simp only [am_hand]
        rw [if_neg (fun q => hE0 q.2.2.symm)]
      show (match am_hand (am_hd 71) 13 E with | none => T E h o g | some (pc', j) => am_X L xs (d + 1) 71 pc' (am_st1 [some (.ref 0), some (.int x1), some (.int x2), some (.int x3), some (.int x4), some (.int x5), some (.int x6), some (.ref 108), none] j none) [] am_C0 h o g Q T)
      rw [e]
      exact H
theorem sm_72 {x1 : Int32} {x2 : Int32} {x3 : Int32} {x4 : Int32} {x5 : Int32} {x6 : Int32} (H : (if x1 < 0 then T 0 h o (g + 1) else (if x1 < (h 3 1) then (if x2 < 0 then T 0 h o (g + 1) else (if x2 < (h 3 1) then (if x3 < 0 then T 0 h o (g + 1) else (if x3 < (h 3 0) then (if (h 23 0) < 80 then (if x4 < 1 then Q (some (.int (-1))) (am_set h 33 1 ((h 33 1) + 1)) o g else (if 60 < x4 then Q (some (.int (-1))) (am_set h 33 1 ((h 33 1) + 1)) o g else (if x1 = x2 then Q (some (.int (-1))) (am_set h 33 1 ((h 33 1) + 1)) o g else (if x6 < 0 then Q (some (.int (-1))) (am_set h 33 1 ((h 33 1) + 1)) o g else (if 999 < x6 then Q (some (.int (-1))) (am_set h 33 1 ((h 33 1) + 1)) o g else (am_ix (h 23 0) 80 ∧ Q (some (.int ((h 23 0) + 1))) (am_set (am_set (am_set (am_set (am_set (am_set (am_set h 24 ((h 23 0).toNatClampNeg) x2) 25 ((h 23 0).toNatClampNeg) x1) 26 ((h 23 0).toNatClampNeg) x3) 27 ((h 23 0).toNatClampNeg) x4) 28 ((h 23 0).toNatClampNeg) (vp_nar .boolean x5)) 29 ((h 23 0).toNatClampNeg) x6) 23 0 ((h 23 0) + 1)) o g)))))) else Q (some (.int (-1))) (am_set h 33 1 ((h 33 1) + 1)) o g) else T 0 h o (g + 1))) else T 0 h o (g + 1))) else T 0 h o (g + 1)))) : am_X L xs (d + 1) 72 0 [some (.ref 0), some (.int x1), some (.int x2), some (.int x3), some (.int x4), some (.int x5), some (.int x6)] [] am_C0 h o g Q T := by
  refine xo_2 rfl rfl ?_
  refine xo_1 rfl rfl ?_
  refine cl_50_0 rfl hd_72 rfl ?_
  refine xo_1 rfl rfl ?_
  refine xo_10lt rfl (am_sp ?_ ?_ H)
  · intro hc1 H
    refine xo_45 rfl (Nat.le_of_ble_eq_true rfl) ?_
    exact H
  · intro hc1 H
    refine xo_1 rfl rfl ?_
    refine xo_2 rfl rfl ?_
    refine xo_13r rfl cr_0_1 ?_
    refine xo_13 rfl cf_3_1 ?_
    refine xo_11lt rfl (am_sp ?_ ?_ H)
    · intro hc2 H
      refine xr_44 rfl ?_
      refine xo_2 rfl rfl ?_
      refine xo_1 rfl rfl ?_
      refine cl_50_0 rfl hd_72 rfl ?_
      refine xo_1 rfl rfl ?_
      refine xo_10lt rfl (am_sp ?_ ?_ H)
      · intro hc3 H
        refine xo_45 rfl (Nat.le_of_ble_eq_true rfl) ?_
        exact H
      · intro hc3 H
        refine xo_1 rfl rfl ?_
        refine xo_2 rfl rfl ?_
        refine xo_13r rfl cr_0_1 ?_
        refine xo_13 rfl cf_3_1 ?_
        refine xo_11lt rfl (am_sp ?_ ?_ H)
        · intro hc4 H
          refine xr_44 rfl ?_
          refine xo_2 rfl rfl ?_
          refine xo_1 rfl rfl ?_
          refine cl_45_0 rfl hd_72 rfl ?_
          refine xo_1 rfl rfl ?_
          refine xo_10lt rfl (am_sp ?_ ?_ H)
          · intro hc5 H
            refine xo_45 rfl (Nat.le_of_ble_eq_true rfl) ?_
            exact H
          · intro hc5 H
            refine xo_1 rfl rfl ?_
            refine xo_2 rfl rfl ?_
            refine xo_13r rfl cr_0_1 ?_
            refine xo_13 rfl cf_3_0 ?_
            refine xo_11lt rfl (am_sp ?_ ?_ H)
            · intro hc6 H
              refine xr_44 rfl ?_
              refine xo_2 rfl rfl ?_
              refine xo_13r rfl cr_0_3 ?_
              refine cl_66_23 rfl hd_72 rfl ?_
              refine xo_2 rfl rfl ?_
              refine xo_13 rfl cf_23_0 ?_
              refine xo_0 rfl ?_
              refine xo_11ge rfl (am_sp ?_ ?_ H)
              · intro hc7 H
                refine xo_0 rfl ?_
                refine xo_12 rfl ?_
                refine xr_42 rfl rfl ?_
                refine xo_10n rfl (by decide) ?_
                refine xo_1 rfl rfl ?_
                refine cl_67 rfl hd_72 rfl ?_
                refine xo_1 rfl rfl ?_
                refine xo_0 rfl ?_
                refine xo_11lt rfl (am_sp ?_ ?_ H)
                · intro hc8 H
                  refine xo_0 rfl ?_
                  refine xr_42 rfl rfl ?_
                  refine xo_10 rfl (by decide) ?_
                  refine xo_2 rfl rfl ?_
                  refine xo_13r rfl cr_0_3 ?_
                  refine xo_0 rfl ?_
                  refine cl_38_23 rfl hd_72 rfl ?_
                  refine xo_2 rfl rfl ?_
                  refine xo_13r rfl cr_23_10 ?_
                  refine xo_1 rfl rfl ?_
                  refine xo_29 rfl ⟨rfl, rfl⟩ ?_
                  refine xo_17 rfl ca_33 (am_ix.lit rfl) ?_
                  refine xo_0 rfl ?_
                  refine xo_7 rfl rfl ?_
                  refine xo_22 rfl ca_33 (am_ix.lit rfl) ?_
                  refine xo_0 rfl ?_
                  refine xr_41 rfl ?_
                  refine xo_41 rfl ?_
                  exact H
                · intro hc8 H
                  refine xo_1 rfl rfl ?_
                  refine xo_0 rfl ?_
                  refine xo_11gt rfl (am_sp ?_ ?_ H)
                  · intro hc9 H
                    refine xo_0 rfl ?_
                    refine xr_42 rfl rfl ?_
                    refine xo_10 rfl (by decide) ?_
                    refine xo_2 rfl rfl ?_
                    refine xo_13r rfl cr_0_3 ?_
                    refine xo_0 rfl ?_
                    refine cl_38_23 rfl hd_72 rfl ?_
                    refine xo_2 rfl rfl ?_
                    refine xo_13r rfl cr_23_10 ?_
                    refine xo_1 rfl rfl ?_
                    refine xo_29 rfl ⟨rfl, rfl⟩ ?_
                    refine xo_17 rfl ca_33 (am_ix.lit rfl) ?_
                    refine xo_0 rfl ?_
                    refine xo_7 rfl rfl ?_
                    refine xo_22 rfl ca_33 (am_ix.lit rfl) ?_
                    refine xo_0 rfl ?_
                    refine xr_41 rfl ?_
                    refine xo_41 rfl ?_
                    exact H
                  · intro hc9 H
                    refine xo_0 rfl ?_
                    refine xo_12 rfl ?_
                    refine xr_42 rfl rfl ?_
                    refine xo_10n rfl (by decide) ?_
                    refine xo_1 rfl rfl ?_
                    refine xo_1 rfl rfl ?_
                    refine xo_11eq rfl (am_sp ?_ ?_ H)
                    · intro hc10 H
                      refine xo_2 rfl rfl ?_
                      refine xo_13r rfl cr_0_3 ?_
                      refine xo_0 rfl ?_
                      refine cl_38_23 rfl hd_72 rfl ?_
                      refine xo_2 rfl rfl ?_
                      refine xo_13r rfl cr_23_10 ?_
                      refine xo_1 rfl rfl ?_
                      refine xo_29 rfl ⟨rfl, rfl⟩ ?_
                      refine xo_17 rfl ca_33 (am_ix.lit rfl) ?_
                      refine xo_0 rfl ?_
                      refine xo_7 rfl rfl ?_
                      refine xo_22 rfl ca_33 (am_ix.lit rfl) ?_
                      refine xo_0 rfl ?_
                      refine xr_41 rfl ?_
                      refine xo_41 rfl ?_
                      exact H
                    · intro hc10 H
                      refine xo_1 rfl rfl ?_
                      refine xo_10lt rfl (am_sp ?_ ?_ H)
                      · intro hc11 H
                        refine xo_2 rfl rfl ?_
                        refine xo_13r rfl cr_0_3 ?_
                        refine xo_0 rfl ?_
                        refine cl_38_23 rfl hd_72 rfl ?_
                        refine xo_2 rfl rfl ?_
                        refine xo_13r rfl cr_23_10 ?_
                        refine xo_1 rfl rfl ?_
                        refine xo_29 rfl ⟨rfl, rfl⟩ ?_
                        refine xo_17 rfl ca_33 (am_ix.lit rfl) ?_
                        refine xo_0 rfl ?_
                        refine xo_7 rfl rfl ?_
                        refine xo_22 rfl ca_33 (am_ix.lit rfl) ?_
                        refine xo_0 rfl ?_
                        refine xr_41 rfl ?_
                        refine xo_41 rfl ?_
                        exact H
                      · intro hc11 H
                        refine xo_1 rfl rfl ?_
                        refine xo_0 rfl ?_
                        refine xo_11le rfl (am_sp ?_ ?_ H)
                        · intro hc12 H
                          refine xo_2 rfl rfl ?_
                          refine xo_13r rfl cr_0_3 ?_
                          refine xo_0 rfl ?_
                          refine cl_38_23 rfl hd_72 rfl ?_
                          refine xo_2 rfl rfl ?_
                          refine xo_13r rfl cr_23_10 ?_
                          refine xo_1 rfl rfl ?_
                          refine xo_29 rfl ⟨rfl, rfl⟩ ?_
                          refine xo_17 rfl ca_33 (am_ix.lit rfl) ?_
                          refine xo_0 rfl ?_
                          refine xo_7 rfl rfl ?_
                          refine xo_22 rfl ca_33 (am_ix.lit rfl) ?_
                          refine xo_0 rfl ?_
                          refine xr_41 rfl ?_
                          refine xo_41 rfl ?_
                          exact H
                        · intro hc12 H
                          refine xo_2 rfl rfl ?_
                          refine xo_13r rfl cr_0_3 ?_
                          refine xo_1 rfl rfl ?_
                          refine xo_1 rfl rfl ?_
                          refine xo_1 rfl rfl ?_
                          refine xo_1 rfl rfl ?_
                          refine xo_1 rfl rfl ?_
                          refine xo_1 rfl rfl ?_
                          refine cl_70_23 rfl hd_72 rfl ?_
                          refine xo_2 rfl rfl ?_
                          refine xo_13r rfl cr_23_1 ?_
                          refine xo_2 rfl rfl ?_
                          refine xo_13 rfl cf_23_0 ?_
                          refine xo_1 rfl rfl ?_
                          obtain ⟨hg13, H⟩ := H
                          refine xo_22 rfl ca_24 hg13 ?_
                          refine xo_2 rfl rfl ?_
                          refine xo_13r rfl cr_23_2 ?_
                          refine xo_2 rfl rfl ?_
                          refine xo_13 rfl cf_23_0 ?_
                          refine xo_1 rfl rfl ?_
                          refine xo_22 rfl ca_25 hg13 ?_
                          refine xo_2 rfl rfl ?_
                          refine xo_13r rfl cr_23_3 ?_
                          refine xo_2 rfl rfl ?_
                          refine xo_13 rfl cf_23_0 ?_
                          refine xo_1 rfl rfl ?_
                          refine xo_22 rfl ca_26 hg13 ?_
                          refine xo_2 rfl rfl ?_
                          refine xo_13r rfl cr_23_4 ?_
                          refine xo_2 rfl rfl ?_
                          refine xo_13 rfl cf_23_0 ?_
                          refine xo_1 rfl rfl ?_
                          refine xo_22 rfl ca_27 hg13 ?_
                          refine xo_2 rfl rfl ?_
                          refine xo_13r rfl cr_23_5 ?_
                          refine xo_2 rfl rfl ?_
                          refine xo_13 rfl cf_23_0 ?_
                          refine xo_1 rfl rfl ?_
                          refine xo_23b rfl ca_28 hg13 ?_
                          refine xo_2 rfl rfl ?_
                          refine xo_13r rfl cr_23_6 ?_
                          refine xo_2 rfl rfl ?_
                          refine xo_13 rfl cf_23_0 ?_
                          refine xo_1 rfl rfl ?_
                          refine xo_22 rfl ca_29 hg13 ?_
                          refine xo_2 rfl rfl ?_
                          refine xo_28 rfl rfl ?_
                          refine xo_13 rfl cf_23_0 ?_
                          refine xo_0 rfl ?_
                          refine xo_7 rfl rfl ?_
                          refine xo_14 rfl cf_23_0 ?_
                          refine xo_2 rfl rfl ?_
                          refine xo_13 rfl cf_23_0 ?_
                          refine xr_41 rfl ?_
                          refine xo_41 rfl ?_
                          exact H
              · intro hc7 H
                refine xo_0 rfl ?_
                refine xr_42 rfl rfl ?_
                refine xo_10 rfl (by decide) ?_
                refine xo_2 rfl rfl ?_
                refine xo_13r rfl cr_0_3 ?_
                refine xo_0 rfl ?_
                refine cl_38_23 rfl hd_72 rfl ?_
                refine xo_2 rfl rfl ?_
                refine xo_13r rfl cr_23_10 ?_
                refine xo_1 rfl rfl ?_
                refine xo_29 rfl ⟨rfl, rfl⟩ ?_
                refine xo_17 rfl ca_33 (am_ix.lit rfl) ?_
                refine xo_0 rfl ?_
                refine xo_7 rfl rfl ?_
                refine xo_22 rfl ca_33 (am_ix.lit rfl) ?_
                refine xo_0 rfl ?_
                refine xr_41 rfl ?_
                refine xo_41 rfl ?_
                exact H
            · intro hc6 H
              refine xo_45 rfl (Nat.le_of_ble_eq_true rfl) ?_
              exact H
        · intro hc4 H
          refine xo_45 rfl (Nat.le_of_ble_eq_true rfl) ?_
          exact H
    · intro hc2 H
      refine xo_45 rfl (Nat.le_of_ble_eq_true rfl) ?_
      exact H
theorem wr_73 {x1 : Int32} {x2 : Int32} {x3 : Int32} {x4 : Int32} (H : am_X L xs d 74 0 [some (.ref 0), some (.int x1), some (.int x2), some (.int x3), some (.int x4)] [] am_C0 h o g (fun w h' o' g' => ∃ y, w = some (.int y) ∧ Q (some (.int 0)) h' (am_setL o' 108 0 y.toInt64) g') (fun E h' o' g' => if E = 0 then Q (some (.int 1)) h' o' g' else if E = 1 then Q (some (.int 2)) h' o' g' else T E h' o' g')) : am_X L xs (d + 1) 73 0 [some (.ref 0), some (.int x1), some (.int x2), some (.int x3), some (.int x4), some (.ref 108), none] [] am_C0 h o g Q T := by
  refine xo_2 rfl rfl ?_
  refine xo_0 rfl ?_
  refine xo_2 rfl rfl ?_
  refine xo_1 rfl rfl ?_
  refine xo_1 rfl rfl ?_
  refine xo_1 rfl rfl ?_
  refine xo_1 rfl rfl ?_
  refine ch_74 rfl rfl (am_X.mono H ?_ ?_)
  · rintro w h o g ⟨y, rfl, H⟩
    show am_X L xs (d + 1) 73 12 [some (.ref 0), some (.int x1), some (.int x2), some (.int x3), some (.int x4), some (.ref 108), none] [.int y, .int 0, .ref 108] am_C0 h o g Q T
    refine xo_32 rfl ?_
    refine xo_26 rfl ca_108 (am_ix.lit rfl) ?_
    refine xo_12 rfl ?_
    refine xo_0 rfl ?_
    refine xo_41 rfl ?_
    exact H
  · intro E h o g H
    by_cases hE0 : E = 0
    · rw [if_pos hE0] at H
      subst hE0
      show am_X L xs (d + 1) 73 19 [some (.ref 0), some (.int x1), some (.int x2), some (.int x3), some (.int x4), some (.ref 108), none] [] am_C0 h o g Q T
      refine xo_0 rfl ?_
      refine xo_41 rfl ?_
      exact H
    · rw [if_neg hE0] at H
      by_cases hE1 : E = 1
      · rw [if_pos hE1] at H
        subst hE1
        show am_X L xs (d + 1) 73 23 [some (.ref 0), some (.int x1), some (.int x2), some (.int x3), some (.int x4), some (.ref 108), none] [] am_C0 h o g Q T
        refine xo_0 rfl ?_
        refine xo_41 rfl ?_
        exact H
      · rw [if_neg hE1] at H
        have e : am_hand (am_hd 73) 9 E = none := by
          show am_hand [(0, 14, 0, 19, 6), (0, 14, 1, 23, 6)] 9 E = none
          simp only [am_hand]
          rw [if_neg (fun q => hE0 q.2.2.symm)]
          rw [if_neg (fun q => hE1 q.2.2.symm)]
        show (match am_hand (am_hd 73) 9 E with | none => T E h o g | some (pc', j) => am_X L xs (d + 1) 73 pc' (am_st1 [some (.ref 0), some (.int x1), some (.int x2), some (.int x3), some (.int x4), some (.ref 108), none] j none) [] am_C0 h o g Q T)
        rw [e]
        exact H
theorem sm_74 {x1 : Int32} {x2 : Int32} {x3 : Int32} {x4 : Int32} (H : (if x1 < 0 then T 0 h o (g + 1) else (if x1 < (h 3 1) then (if x2 < 0 then T 0 h o (g + 1) else (if x2 < (h 3 0) then (if x4 < 0 then T 0 h o (g + 1) else (if 2 < x4 then T 0 h o (g + 1) else (if x3 < 0 then T 1 h o (g + 1) else (if (h 23 0) < x3 then T 1 h o (g + 1) else am_X L xs d 76 0 [some (.ref 23), some (.int x1), some (.int x2), some (.int x3), some (.int (-1)), some (.ref 61), none] [] am_C0 h o g (fun w h' o' g' => am_X L xs (d + 1) 74 37 [some (.ref 0), some (.int x1), some (.int x2), some (.int x3), some (.int x4)] (w.toList ++ []) am_C0 h' o' g' Q T) T)))) else T 0 h o (g + 1))) else T 0 h o (g + 1)))) : am_X L xs (d + 1) 74 0 [some (.ref 0), some (.int x1), some (.int x2), some (.int x3), some (.int x4)] [] am_C0 h o g Q T := by
  refine xo_2 rfl rfl ?_
  refine xo_1 rfl rfl ?_
  refine cl_50_0 rfl hd_74 rfl ?_
  refine xo_1 rfl rfl ?_
  refine xo_10lt rfl (am_sp ?_ ?_ H)
  · intro hc1 H
    refine xo_45 rfl (Nat.le_of_ble_eq_true rfl) ?_
    exact H
  · intro hc1 H
    refine xo_1 rfl rfl ?_
    refine xo_2 rfl rfl ?_
    refine xo_13r rfl cr_0_1 ?_
    refine xo_13 rfl cf_3_1 ?_
    refine xo_11lt rfl (am_sp ?_ ?_ H)
    · intro hc2 H
      refine xr_44 rfl ?_
      refine xo_2 rfl rfl ?_
      refine xo_1 rfl rfl ?_
      refine cl_45_0 rfl hd_74 rfl ?_
      refine xo_1 rfl rfl ?_
      refine xo_10lt rfl (am_sp ?_ ?_ H)
      · intro hc3 H
        refine xo_45 rfl (Nat.le_of_ble_eq_true rfl) ?_
        exact H
      · intro hc3 H
        refine xo_1 rfl rfl ?_
        refine xo_2 rfl rfl ?_
        refine xo_13r rfl cr_0_1 ?_
        refine xo_13 rfl cf_3_0 ?_
        refine xo_11lt rfl (am_sp ?_ ?_ H)
        · intro hc4 H
          refine xr_44 rfl ?_
          refine xo_2 rfl rfl ?_
          refine xo_1 rfl rfl ?_
          refine xo_0 rfl ?_
          refine cl_51_0 rfl hd_74 rfl ?_
          refine xo_1 rfl rfl ?_
          refine xo_10lt rfl (am_sp ?_ ?_ H)
          · intro hc5 H
            refine xo_45 rfl (Nat.le_of_ble_eq_true rfl) ?_
            exact H
          · intro hc5 H
            refine xo_1 rfl rfl ?_
            refine xo_1 rfl rfl ?_
            refine xo_11le rfl (am_sp ?_ ?_ H)
            · intro hc6 H
              refine xo_45 rfl (Nat.le_of_ble_eq_true rfl) ?_
              exact H
            · intro hc6 H
              refine xr_44 rfl ?_
              refine xo_2 rfl rfl ?_
              refine xo_1 rfl rfl ?_
              refine cl_75_0 rfl hd_74 rfl ?_
              refine xo_1 rfl rfl ?_
              refine xo_10lt rfl (am_sp ?_ ?_ H)
              · intro hc7 H
                refine xo_45 rfl (Nat.le_of_ble_eq_true rfl) ?_
                exact H
              · intro hc7 H
                refine xo_1 rfl rfl ?_
                refine xo_2 rfl rfl ?_
                refine xo_13r rfl cr_0_3 ?_
                refine xo_13 rfl cf_23_0 ?_
                refine xo_11le rfl (am_sp ?_ ?_ H)
                · intro hc8 H
                  refine xo_45 rfl (Nat.le_of_ble_eq_true rfl) ?_
                  exact H
                · intro hc8 H
                  refine xr_44 rfl ?_
                  refine xo_2 rfl rfl ?_
                  refine xo_13r rfl cr_0_3 ?_
                  refine xo_1 rfl rfl ?_
                  refine xo_1 rfl rfl ?_
                  refine xo_1 rfl rfl ?_
                  refine xo_0 rfl ?_
                  refine xo_2 rfl rfl ?_
                  refine xo_13r rfl cr_0_8 ?_
                  refine cl_76_23_61 rfl hd_74 rfl ?_
                  exact H
        · intro hc4 H
          refine xo_45 rfl (Nat.le_of_ble_eq_true rfl) ?_
          exact H
    · intro hc2 H
      refine xo_45 rfl (Nat.le_of_ble_eq_true rfl) ?_
      exact H
theorem sm_74_37 {q1 : Option Value} {q2 : Option Value} {q3 : Option Value} {x4 : Int32} (hq1 : am_nl q1 = true) (hq2 : am_nl q2 = true) (hq3 : am_nl q3 = true) (H : (if x4 = 2 then Q (some (.int (fn_77 h))) h o g else (if (h 61 1) < (h 61 0) then Q (some (.int (-1))) h o g else (if x4 = 0 then Q (some (.int (h 61 0))) h o g else Q (some (.int (h 61 1))) h o g)))) : am_X L xs (d + 2) 74 37 [some (.ref 0), q1, q2, q3, some (.int x4)] [] am_C0 h o g Q T := by
  refine xo_1 rfl rfl ?_
  refine xo_0 rfl ?_
  refine xo_11ne rfl (am_sp ?_ ?_ H)
  · intro hc1 H
    refine xo_2 rfl rfl ?_
    refine xo_13r rfl cr_0_8 ?_
    refine cl_77_61 rfl hd_74 rfl (sf_77 ?_)
    show am_X L xs (d + 2) 74 50 [some (.ref 0), q1, q2, q3, some (.int x4)] [.int (fn_77 h)] am_C0 h o g Q T
    refine xo_41 rfl ?_
    exact H
  · intro hc1 H
    refine xo_2 rfl rfl ?_
    refine xo_13r rfl cr_0_8 ?_
    refine cl_19_61 rfl hd_74 rfl ?_
    refine xo_2 rfl rfl ?_
    refine xo_13 rfl cf_61_0 ?_
    refine xo_2 rfl rfl ?_
    refine xo_13 rfl cf_61_1 ?_
    refine xo_11le rfl (am_sp ?_ ?_ H)
    · intro hc2 H
      refine xo_0 rfl ?_
      refine xo_12 rfl ?_
      refine xr_42 rfl rfl ?_
      refine xo_10n rfl (by decide) ?_
      refine xo_0 rfl ?_
      refine xo_41 rfl ?_
      exact H
    · intro hc2 H
      refine xo_0 rfl ?_
      refine xr_42 rfl rfl ?_
      refine xo_10 rfl (by decide) ?_
      refine xo_1 rfl rfl ?_
      refine xo_10ne rfl (am_sp ?_ ?_ H)
      · intro hc3 H
        refine xo_2 rfl rfl ?_
        refine xo_13r rfl cr_0_8 ?_
        refine xo_13 rfl cf_61_0 ?_
        refine xo_12 rfl ?_
        refine xo_41 rfl ?_
        exact H
      · intro hc3 H
        refine xo_2 rfl rfl ?_
        refine xo_13r rfl cr_0_8 ?_
        refine xo_13 rfl cf_61_1 ?_
        refine xo_41 rfl ?_
        exact H
theorem sm_76 {x1 : Int32} {x2 : Int32} {x3 : Int32} {x4 : Int32} (H : (am_ix x2 5 ∧ am_X L xs (d + 1) 76 26 [some (.ref 23), some (.int x1), some (.int x2), some (.int x3), some (.int x4), some (.ref 61), some (.int 0)] [] am_C0 (am_set (am_set h 61 0 (h 4 x2.toNatClampNeg)) 61 1 (h 5 x2.toNatClampNeg)) o g Q T)) : am_X L xs (d + 1) 76 0 [some (.ref 23), some (.int x1), some (.int x2), some (.int x3), some (.int x4), some (.ref 61), none] [] am_C0 h o g Q T := by
  refine xo_2 rfl rfl ?_
  refine xo_2 rfl rfl ?_
  refine xo_13r rfl cr_23_11 ?_
  refine xo_13r rfl cr_3_3 ?_
  refine xo_1 rfl rfl ?_
  obtain ⟨hg1, H⟩ := H
  refine xo_17 rfl ca_4 hg1 ?_
  refine xo_2 rfl rfl ?_
  refine xo_13r rfl cr_23_11 ?_
  refine xo_13r rfl cr_3_4 ?_
  refine xo_1 rfl rfl ?_
  refine xo_17 rfl ca_5 hg1 ?_
  refine cl_17_61 rfl hd_76 rfl ?_
  refine xo_2 rfl rfl ?_
  refine xo_1 rfl rfl ?_
  refine xo_14 rfl cf_61_0 ?_
  refine xo_2 rfl rfl ?_
  refine xo_1 rfl rfl ?_
  refine xo_14 rfl cf_61_1 ?_
  refine xr_44 rfl ?_
  refine xo_0 rfl ?_
  refine xo_4 (lv' := [some (.ref 23), some (.int x1), some (.int x2), some (.int x3), some (.int x4), some (.ref 61), some (.int 0)]) rfl rfl rfl ?_
  exact H
theorem sm_76_26 {x1 : Int32} {x2 : Int32} {x3 : Int32} {x4 : Int32} {x6 : Int32} (H : (if x6 < x3 then (am_ix x6 80 ∧ (if (h 24 x6.toNatClampNeg) = x1 then (if (h 26 x6.toNatClampNeg) = x2 then (if x6 = x4 then am_X L xs (d + 1) 76 26 [some (.ref 23), some (.int x1), some (.int x2), some (.int x3), some (.int x4), some (.ref 61), some (.int (x6 + 1))] [] am_C0 h o g Q T else (if (h 28 x6.toNatClampNeg) = 0 then am_X L xs (d + 1) 76 26 [some (.ref 23), some (.int x1), some (.int x2), some (.int x3), some (.int x4), some (.ref 61), some (.int (x6 + 1))] [] am_C0 (am_set h 61 1 (if ((h 27 x6.toNatClampNeg) - 1) < (h 61 1) then ((h 27 x6.toNatClampNeg) - 1) else (h 61 1))) o g Q T else am_X L xs (d + 1) 76 26 [some (.ref 23), some (.int x1), some (.int x2), some (.int x3), some (.int x4), some (.ref 61), some (.int (x6 + 1))] [] am_C0 (am_set h 61 0 (if (h 61 0) < (h 27 x6.toNatClampNeg) then (h 27 x6.toNatClampNeg) else (h 61 0))) o g Q T)) else am_X L xs (d + 1) 76 26 [some (.ref 23), some (.int x1), some (.int x2), some (.int x3), some (.int x4), some (.ref 61), some (.int (x6 + 1))] [] am_C0 h o g Q T) else am_X L xs (d + 1) 76 26 [some (.ref 23), some (.int x1), some (.int x2), some (.int x3), some (.int x4), some (.ref 61), some (.int (x6 + 1))] [] am_C0 h o g Q T)) else Q none h o g)) : am_X L xs (d + 1) 76 26 [some (.ref 23), some (.int x1), some (.int x2), some (.int x3), some (.int x4), some (.ref 61), some (.int x6)] [] am_C0 h o g Q T := by
  refine xo_1 rfl rfl ?_
  refine xo_1 rfl rfl ?_
  refine xo_11ge rfl (am_sp ?_ ?_ H)
  · intro hc1 H
    refine xo_2 rfl rfl ?_
    refine xo_13r rfl cr_23_1 ?_
    refine xo_1 rfl rfl ?_
    obtain ⟨hg2, H⟩ := H
    refine xo_17 rfl ca_24 hg2 ?_
    refine xo_1 rfl rfl ?_
    refine xo_11ne rfl (am_sp ?_ ?_ H)
    · intro hc3 H
      refine xo_2 rfl rfl ?_
      refine xo_13r rfl cr_23_3 ?_
      refine xo_1 rfl rfl ?_
      refine xo_17 rfl ca_26 hg2 ?_
      refine xo_1 rfl rfl ?_
      refine xo_11ne rfl (am_sp ?_ ?_ H)
      · intro hc4 H
        refine xo_1 rfl rfl ?_
        refine xo_1 rfl rfl ?_
        refine xo_11eq rfl (am_sp ?_ ?_ H)
        · intro hc5 H
          refine xo_9 (z := (x6 + 1)) (lv' := [some (.ref 23), some (.int x1), some (.int x2), some (.int x3), some (.int x4), some (.ref 61), some (.int (x6 + 1))]) rfl rfl rfl rfl rfl ?_
          refine xo_12 rfl ?_
          exact H
        · intro hc5 H
          refine xo_2 rfl rfl ?_
          refine xo_2 rfl rfl ?_
          refine xo_13r rfl cr_23_4 ?_
          refine xo_1 rfl rfl ?_
          refine xo_17 rfl ca_27 hg2 ?_
          refine xo_2 rfl rfl ?_
          refine xo_13r rfl cr_23_5 ?_
          refine xo_1 rfl rfl ?_
          refine xo_18b rfl ca_28 hg2 ?_
          refine cl_18_61 rfl hd_76 rfl ?_
          refine xo_1 rfl rfl ?_
          refine xo_10eq rfl (am_sp ?_ ?_ H)
          · intro hc6 H
            refine xo_2 rfl rfl ?_
            refine xo_2 rfl rfl ?_
            refine xo_13 rfl cf_61_1 ?_
            refine xo_1 rfl rfl ?_
            refine xo_0 rfl ?_
            refine xo_7 rfl rfl ?_
            refine xo_47n rfl (Nat.le_of_ble_eq_true rfl) ?_
            refine xo_14 rfl cf_61_1 ?_
            refine xr_44 rfl ?_
            refine xo_9 (z := (x6 + 1)) (lv' := [some (.ref 23), some (.int x1), some (.int x2), some (.int x3), some (.int x4), some (.ref 61), some (.int (x6 + 1))]) rfl rfl rfl rfl rfl ?_
            refine xo_12 rfl ?_
            exact H
          · intro hc6 H
            refine xo_2 rfl rfl ?_
            refine xo_2 rfl rfl ?_
            refine xo_13 rfl cf_61_0 ?_
            refine xo_1 rfl rfl ?_
            refine xo_47x rfl (Nat.le_of_ble_eq_true rfl) ?_
            refine xo_14 rfl cf_61_0 ?_
            refine xo_12 rfl ?_
            refine xr_44 rfl ?_
            refine xo_9 (z := (x6 + 1)) (lv' := [some (.ref 23), some (.int x1), some (.int x2), some (.int x3), some (.int x4), some (.ref 61), some (.int (x6 + 1))]) rfl rfl rfl rfl rfl ?_
            refine xo_12 rfl ?_
            exact H
      · intro hc4 H
        refine xo_9 (z := (x6 + 1)) (lv' := [some (.ref 23), some (.int x1), some (.int x2), some (.int x3), some (.int x4), some (.ref 61), some (.int (x6 + 1))]) rfl rfl rfl rfl rfl ?_
        refine xo_12 rfl ?_
        exact H
    · intro hc3 H
      refine xo_9 (z := (x6 + 1)) (lv' := [some (.ref 23), some (.int x1), some (.int x2), some (.int x3), some (.int x4), some (.ref 61), some (.int (x6 + 1))]) rfl rfl rfl rfl rfl ?_
      refine xo_12 rfl ?_
      exact H
  · intro hc1 H
    refine xo_44 rfl ?_
    exact H
theorem wr_78 {x1 : Int32} {x2 : Int32} {x3 : Int32} {x4 : Int32} {x5 : Int32} {x6 : Int32} (H : am_X L xs d 79 0 [some (.ref 0), some (.int x1), some (.int x2), some (.int x3), some (.int x4), some (.int x5), some (.int x6)] [] am_C0 h o g (fun w h' o' g' => ∃ y, w = some (.int y) ∧ (if y = 0 then Q (some (.int 0)) h' (am_setL o' 108 0 (Int64.ofNat 0)) g' else Q (some (.int 0)) h' (am_setL o' 108 0 (Int64.ofNat 1)) g')) (fun E h' o' g' => if E = 0 then Q (some (.int 1)) h' o' g' else if E = 1 then Q (some (.int 2)) h' o' g' else T E h' o' g')) : am_X L xs (d + 1) 78 0 [some (.ref 0), some (.int x1), some (.int x2), some (.int x3), some (.int x4), some (.int x5), some (.int x6), some (.ref 108), none] [] am_C0 h o g Q T := by
  refine xo_2 rfl rfl ?_
  refine xo_0 rfl ?_
  refine xo_2 rfl rfl ?_
  refine xo_1 rfl rfl ?_
  refine xo_1 rfl rfl ?_
  refine xo_1 rfl rfl ?_
  refine xo_1 rfl rfl ?_
  refine xo_1 rfl rfl ?_
  refine xo_1 rfl rfl ?_
  refine ch_79 rfl rfl (am_X.mono H ?_ ?_)
  · rintro w h o g ⟨y, rfl, H⟩
    show am_X L xs (d + 1) 78 16 [some (.ref 0), some (.int x1), some (.int x2), some (.int x3), some (.int x4), some (.int x5), some (.int x6), some (.ref 108), none] [.int y, .int 0, .ref 108] am_C0 h o g Q T
    refine xo_10eq rfl (am_sp ?_ ?_ H)
    · intro hc1 H
      refine xo_31 rfl ?_
      refine xo_26 rfl ca_108 (am_ix.lit rfl) ?_
      refine xo_12 rfl ?_
      refine xo_0 rfl ?_
      refine xo_41 rfl ?_
      exact H
    · intro hc1 H
      refine xo_31 rfl ?_
      refine xo_12 rfl ?_
      refine xo_26 rfl ca_108 (am_ix.lit rfl) ?_
      refine xo_12 rfl ?_
      refine xo_0 rfl ?_
      refine xo_41 rfl ?_
      exact H
  · intro E h o g H
    by_cases hE0 : E = 0
    · rw [if_pos hE0] at H
      subst hE0
      show am_X L xs (d + 1) 78 30 [some (.ref 0), some (.int x1), some (.int x2), some (.int x3), some (.int x4), some (.int x5), some (.int x6), some (.ref 108), none] [] am_C0 h o g Q T
      refine xo_0 rfl ?_
      refine xo_41 rfl ?_
      exact H
    · rw [if_neg hE0] at H
      by_cases hE1 : E = 1
      · rw [if_pos hE1] at H
        subst hE1
        show am_X L xs (d + 1) 78 34 [some (.ref 0), some (.int x1), some (.int x2), some (.int x3), some (.int x4), some (.int x5), some (.int x6), some (.ref 108), none] [] am_C0 h o g Q T
        refine xo_0 rfl ?_
        refine xo_41 rfl ?_
        exact H
      · rw [if_neg hE1] at H
        have e : am_hand (am_hd 78) 13 E = none := by
          show am_hand [(0, 25, 0, 30, 8), (0, 25, 1, 34, 8)] 13 E = none
          simp only [am_hand]
          rw [if_neg (fun q => hE0 q.2.2.symm)]
          rw [if_neg (fun q => hE1 q.2.2.symm)]
        show (match am_hand (am_hd 78) 13 E with | none => T E h o g | some (pc', j) => am_X L xs (d + 1) 78 pc' (am_st1 [some (.ref 0), some (.int x1), some (.int x2), some (.int x3), some (.int x4), some (.int x5), some (.int x6), some (.ref 108), none] j none) [] am_C0 h o g Q T)
        rw [e]
        exact H
theorem sm_79 {x1 : Int32} {x2 : Int32} {x3 : Int32} {x4 : Int32} {x5 : Int32} {x6 : Int32} (H : (if x1 < 0 then T 0 h o (g + 1) else (if x1 < (h 3 1) then (if x2 < 0 then T 0 h o (g + 1) else (if x2 < (h 3 0) then (if x3 < 0 then T 0 h o (g + 1) else (if x3 < (h 3 2) then (if x4 < 0 then T 0 h o (g + 1) else (if 99 < x4 then T 0 h o (g + 1) else (if x5 < 0 then T 0 h o (g + 1) else (if 9999 < x5 then T 0 h o (g + 1) else (if x6 < 0 then T 1 h o (g + 1) else (if (h 23 0) < x6 then T 1 h o (g + 1) else am_X L xs d 80 0 [some (.ref 0), some (.int x1), some (.int x2), some (.int x6), some (.int (-1))] [] am_C0 h o g (fun w h' o' g' => am_X L xs (d + 1) 79 42 [some (.ref 0), some (.int x1), some (.int x2), some (.int x3), some (.int x4), some (.int x5), some (.int x6)] (w.toList ++ []) am_C0 h' o' g' Q T) T)))))) else T 0 h o (g + 1))) else T 0 h o (g + 1))) else T 0 h o (g + 1)))) : am_X L xs (d + 1) 79 0 [some (.ref 0), some (.int x1), some (.int x2), some (.int x3), some (.int x4), some (.int x5), some (.int x6)] [] am_C0 h o g Q T := by
  refine xo_2 rfl rfl ?_
  refine xo_1 rfl rfl ?_
  refine cl_50_0 rfl hd_79 rfl ?_
  refine xo_1 rfl rfl ?_
  refine xo_10lt rfl (am_sp ?_ ?_ H)
  · intro hc1 H
    refine xo_45 rfl (Nat.le_of_ble_eq_true rfl) ?_
    exact H
  · intro hc1 H
    refine xo_1 rfl rfl ?_
    refine xo_2 rfl rfl ?_
    refine xo_13r rfl cr_0_1 ?_
    refine xo_13 rfl cf_3_1 ?_
    refine xo_11lt rfl (am_sp ?_ ?_ H)
    · intro hc2 H
      refine xr_44 rfl ?_
      refine xo_2 rfl rfl ?_
      refine xo_1 rfl rfl ?_
      refine cl_45_0 rfl hd_79 rfl ?_
      refine xo_1 rfl rfl ?_
      refine xo_10lt rfl (am_sp ?_ ?_ H)
      · intro hc3 H
        refine xo_45 rfl (Nat.le_of_ble_eq_true rfl) ?_
        exact H
      · intro hc3 H
        refine xo_1 rfl rfl ?_
        refine xo_2 rfl rfl ?_
        refine xo_13r rfl cr_0_1 ?_
        refine xo_13 rfl cf_3_0 ?_
        refine xo_11lt rfl (am_sp ?_ ?_ H)
        · intro hc4 H
          refine xr_44 rfl ?_
          refine xo_2 rfl rfl ?_
          refine xo_1 rfl rfl ?_
          refine cl_57_0 rfl hd_79 rfl ?_
          refine xo_1 rfl rfl ?_
          refine xo_10lt rfl (am_sp ?_ ?_ H)
          · intro hc5 H
            refine xo_45 rfl (Nat.le_of_ble_eq_true rfl) ?_
            exact H
          · intro hc5 H
            refine xo_1 rfl rfl ?_
            refine xo_2 rfl rfl ?_
            refine xo_13r rfl cr_0_1 ?_
            refine xo_13 rfl cf_3_2 ?_
            refine xo_11lt rfl (am_sp ?_ ?_ H)
            · intro hc6 H
              refine xr_44 rfl ?_
              refine xo_2 rfl rfl ?_
              refine xo_1 rfl rfl ?_
              refine cl_58_0 rfl hd_79 rfl ?_
              refine xo_1 rfl rfl ?_
              refine xo_10lt rfl (am_sp ?_ ?_ H)
              · intro hc7 H
                refine xo_45 rfl (Nat.le_of_ble_eq_true rfl) ?_
                exact H
              · intro hc7 H
                refine xo_1 rfl rfl ?_
                refine xo_0 rfl ?_
                refine xo_11le rfl (am_sp ?_ ?_ H)
                · intro hc8 H
                  refine xo_45 rfl (Nat.le_of_ble_eq_true rfl) ?_
                  exact H
                · intro hc8 H
                  refine xr_44 rfl ?_
                  refine xo_2 rfl rfl ?_
                  refine xo_1 rfl rfl ?_
                  refine cl_59_0 rfl hd_79 rfl ?_
                  refine xo_1 rfl rfl ?_
                  refine xo_10lt rfl (am_sp ?_ ?_ H)
                  · intro hc9 H
                    refine xo_45 rfl (Nat.le_of_ble_eq_true rfl) ?_
                    exact H
                  · intro hc9 H
                    refine xo_1 rfl rfl ?_
                    refine xo_0 rfl ?_
                    refine xo_11le rfl (am_sp ?_ ?_ H)
                    · intro hc10 H
                      refine xo_45 rfl (Nat.le_of_ble_eq_true rfl) ?_
                      exact H
                    · intro hc10 H
                      refine xr_44 rfl ?_
                      refine xo_2 rfl rfl ?_
                      refine xo_1 rfl rfl ?_
                      refine cl_75_0 rfl hd_79 rfl ?_
                      refine xo_1 rfl rfl ?_
                      refine xo_10lt rfl (am_sp ?_ ?_ H)
                      · intro hc11 H
                        refine xo_45 rfl (Nat.le_of_ble_eq_true rfl) ?_
                        exact H
                      · intro hc11 H
                        refine xo_1 rfl rfl ?_
                        refine xo_2 rfl rfl ?_
                        refine xo_13r rfl cr_0_3 ?_
                        refine xo_13 rfl cf_23_0 ?_
                        refine xo_11le rfl (am_sp ?_ ?_ H)
                        · intro hc12 H
                          refine xo_45 rfl (Nat.le_of_ble_eq_true rfl) ?_
                          exact H
                        · intro hc12 H
                          refine xr_44 rfl ?_
                          refine xo_2 rfl rfl ?_
                          refine xo_1 rfl rfl ?_
                          refine xo_1 rfl rfl ?_
                          refine xo_1 rfl rfl ?_
                          refine xo_0 rfl ?_
                          refine cl_80_0 rfl hd_79 rfl ?_
                          exact H
            · intro hc6 H
              refine xo_45 rfl (Nat.le_of_ble_eq_true rfl) ?_
              exact H
        · intro hc4 H
          refine xo_45 rfl (Nat.le_of_ble_eq_true rfl) ?_
          exact H
    · intro hc2 H
      refine xo_45 rfl (Nat.le_of_ble_eq_true rfl) ?_
      exact H
theorem sm_79_42 {q1 : Option Value} {x2 : Int32} {x3 : Int32} {x4 : Int32} {x5 : Int32} {q6 : Option Value} {z0 : Int32} (hq1 : am_nl q1 = true) (hq6 : am_nl q6 = true) (H : (am_ix x2 5 ∧ am_X L xs d 60 0 [some (.ref 3), some (.int x3), some (.int x4), some (.int (h 7 x2.toNatClampNeg)), some (.int x5), none, none, none] [] am_C0 h o g (fun w h' o' g' => am_X L xs (d + 1) 79 63 [some (.ref 0), q1, some (.int x2), some (.int x3), some (.int x4), some (.int x5), q6] (w.toList ++ [.int z0]) am_C0 h' o' g' Q T) T)) : am_X L xs (d + 1) 79 42 [some (.ref 0), q1, some (.int x2), some (.int x3), some (.int x4), some (.int x5), q6] [.int z0] am_C0 h o g Q T := by
  refine xo_2 rfl rfl ?_
  refine xo_13r rfl cr_0_1 ?_
  refine xo_1 rfl rfl ?_
  refine xo_1 rfl rfl ?_
  refine xo_2 rfl rfl ?_
  refine xo_13r rfl cr_0_1 ?_
  refine xo_13r rfl cr_3_6 ?_
  refine xo_1 rfl rfl ?_
  obtain ⟨hg1, H⟩ := H
  refine xo_17 rfl ca_7 hg1 ?_
  refine xo_1 rfl rfl ?_
  refine cl_60_3 rfl hd_79 rfl ?_
  exact H
theorem sm_79_63 {q0 : Option Value} {q1 : Option Value} {q2 : Option Value} {q3 : Option Value} {q4 : Option Value} {q5 : Option Value} {q6 : Option Value} {z0 : Int32} {z1 : Int32} (hq0 : am_nl q0 = true) (hq1 : am_nl q1 = true) (hq2 : am_nl q2 = true) (hq3 : am_nl q3 = true) (hq4 : am_nl q4 = true) (hq5 : am_nl q5 = true) (hq6 : am_nl q6 = true) (H : (if z1 < z0 then Q (some (.int 0)) h o g else Q (some (.int 1)) h o g)) : am_X L xs d 79 63 [q0, q1, q2, q3, q4, q5, q6] [.int z1, .int z0] am_C0 h o g Q T := by
  refine xo_11gt rfl (am_sp ?_ ?_ H)
  · intro hc1 H
    refine xo_0 rfl ?_
    refine xo_42 rfl rfl ?_
    exact H
  · intro hc1 H
    refine xo_0 rfl ?_
    refine xo_12 rfl ?_
    refine xo_42 rfl rfl ?_
    exact H
theorem sm_80 {x1 : Int32} {x2 : Int32} {x3 : Int32} {x4 : Int32} (H : am_X L xs d 76 0 [some (.ref 23), some (.int x1), some (.int x2), some (.int x3), some (.int x4), some (.ref 61), none] [] am_C0 h o g (fun w h' o' g' => am_X L xs (d + 1) 80 16 [some (.ref 0), some (.int x1), some (.int x2), some (.int x3), some (.int x4)] (w.toList ++ []) am_C0 h' o' g' Q T) T) : am_X L xs (d + 1) 80 0 [some (.ref 0), some (.int x1), some (.int x2), some (.int x3), some (.int x4)] [] am_C0 h o g Q T := by
  refine xo_2 rfl rfl ?_
  refine xo_13r rfl cr_0_3 ?_
  refine xo_1 rfl rfl ?_
  refine xo_1 rfl rfl ?_
  refine xo_1 rfl rfl ?_
  refine xo_1 rfl rfl ?_
  refine xo_2 rfl rfl ?_
  refine xo_13r rfl cr_0_8 ?_
  refine cl_76_23_61 rfl hd_80 rfl ?_
  exact H
theorem sm_80_16 {q1 : Option Value} {x2 : Int32} {q3 : Option Value} {q4 : Option Value} (hq1 : am_nl q1 = true) (hq3 : am_nl q3 = true) (hq4 : am_nl q4 = true) (H : (if (h 61 1) < (h 61 0) then Q (some (.int 1000)) h o g else (am_ix x2 5 ∧ Q (some (.int (((h 61 1) + ((h 8 x2.toNatClampNeg) * ((h 30 x2.toNatClampNeg) / 10))) + (h 12 1)))) h o g))) : am_X L xs (d + 2) 80 16 [some (.ref 0), q1, some (.int x2), q3, q4] [] am_C0 h o g Q T := by
  refine xo_2 rfl rfl ?_
  refine xo_13r rfl cr_0_8 ?_
  refine cl_19_61 rfl hd_80 rfl ?_
  refine xo_2 rfl rfl ?_
  refine xo_13 rfl cf_61_0 ?_
  refine xo_2 rfl rfl ?_
  refine xo_13 rfl cf_61_1 ?_
  refine xo_11le rfl (am_sp ?_ ?_ H)
  · intro hc1 H
    refine xo_0 rfl ?_
    refine xo_12 rfl ?_
    refine xr_42 rfl rfl ?_
    refine xo_10n rfl (by decide) ?_
    refine xo_0 rfl ?_
    refine xo_12 rfl ?_
    refine xo_41 rfl ?_
    exact H
  · intro hc1 H
    refine xo_0 rfl ?_
    refine xr_42 rfl rfl ?_
    refine xo_10 rfl (by decide) ?_
    refine xo_2 rfl rfl ?_
    refine xo_1 rfl rfl ?_
    refine xo_2 rfl rfl ?_
    refine xo_13r rfl cr_0_8 ?_
    refine xo_13 rfl cf_61_1 ?_
    refine xo_2 rfl rfl ?_
    refine xo_13r rfl cr_0_3 ?_
    refine xo_13r rfl cr_23_7 ?_
    refine xo_1 rfl rfl ?_
    obtain ⟨hg2, H⟩ := H
    refine xo_17 rfl ca_30 hg2 ?_
    refine cl_81_0 rfl hd_80 rfl ?_
    refine xo_1 rfl rfl ?_
    refine xo_2 rfl rfl ?_
    refine xo_13r rfl cr_0_1 ?_
    refine xo_1 rfl rfl ?_
    refine xo_1 rfl rfl ?_
    refine cl_82_3 rfl hd_81 rfl ?_
    refine xo_2 rfl rfl ?_
    refine xo_13r rfl cr_3_7 ?_
    refine xo_1 rfl rfl ?_
    refine xo_17 rfl ca_8 hg2 ?_
    refine xo_1 rfl rfl ?_
    refine xo_0 rfl ?_
    refine xo_7d rfl (by decide) ?_
    refine xo_7 rfl rfl ?_
    refine xr_41 rfl ?_
    refine xo_7 rfl rfl ?_
    refine xo_2 rfl rfl ?_
    refine xo_13r rfl cr_0_1 ?_
    refine xo_13r rfl cr_3_11 ?_
    refine xo_0 rfl ?_
    refine xo_17 rfl ca_12 (am_ix.lit rfl) ?_
    refine xo_7 rfl rfl ?_
    refine xr_41 rfl ?_
    refine xo_41 rfl ?_
    exact H
theorem wr_83 {x1 : Int32} {x2 : Int32} (H : am_X L xs d 84 0 [some (.ref 0), some (.int x1), some (.int x2), none, none] [] am_C0 h o g (fun w h' o' g' => ∃ y, w = some (.int y) ∧ Q (some (.int 0)) h' (am_setL o' 108 0 y.toInt64) g') (fun E h' o' g' => if E = 0 then Q (some (.int 1)) h' o' g' else T E h' o' g')) : am_X L xs (d + 1) 83 0 [some (.ref 0), some (.int x1), some (.int x2), some (.ref 108), none] [] am_C0 h o g Q T := by
  refine xo_2 rfl rfl ?_
  refine xo_0 rfl ?_
  refine xo_2 rfl rfl ?_
  refine xo_1 rfl rfl ?_
  refine xo_1 rfl rfl ?_
  refine ch_84 rfl rfl (am_X.mono H ?_ ?_)
  · rintro w h o g ⟨y, rfl, H⟩
    show am_X L xs (d + 1) 83 8 [some (.ref 0), some (.int x1), some (.int x2), some (.ref 108), none] [.int y, .int 0, .ref 108] am_C0 h o g Q T
    refine xo_32 rfl ?_
    refine xo_26 rfl ca_108 (am_ix.lit rfl) ?_
    refine xo_12 rfl ?_
    refine xo_0 rfl ?_
    refine xo_41 rfl ?_
    exact H
  · intro E h o g H
    by_cases hE0 : E = 0
    · rw [if_pos hE0] at H
      subst hE0
      show am_X L xs (d + 1) 83 15 [some (.ref 0), some (.int x1), some (.int x2), some (.ref 108), none] [] am_C0 h o g Q T
      refine xo_0 rfl ?_
      refine xo_41 rfl ?_
      exact H
    · rw [if_neg hE0] at H
      have e : am_hand (am_hd 83) 5 E = none := by
        show am_hand [(0, 10, 0, 15, 4)] 5 E = none
        simp only [am_hand]
        rw [if_neg (fun q => hE0 q.2.2.symm)]
      show (match am_hand (am_hd 83) 5 E with | none => T E h o g | some (pc', j) => am_X L xs (d + 1) 83 pc' (am_st1 [some (.ref 0), some (.int x1), some (.int x2), some (.ref 108), none] j none) [] am_C0 h o g Q T)
      rw [e]
      exact H
theorem sm_84 {x1 : Int32} {x2 : Int32} (H : (if x1 < 0 then T 0 h o (g + 1) else (if x1 < (h 3 1) then (if x2 < 0 then T 0 h o (g + 1) else (if 9999 < x2 then T 0 h o (g + 1) else am_X L xs d 85 0 [some (.ref 0), some (.int x1), some (.int x2), none] [] am_C0 h o g (fun w h' o' g' => am_X L xs (d + 1) 84 16 [some (.ref 0), some (.int x1), some (.int x2), none, none] (w.toList ++ []) am_C0 h' o' g' Q T) T)) else T 0 h o (g + 1)))) : am_X L xs (d + 1) 84 0 [some (.ref 0), some (.int x1), some (.int x2), none, none] [] am_C0 h o g Q T := by
  refine xo_2 rfl rfl ?_
  refine xo_1 rfl rfl ?_
  refine cl_50_0 rfl hd_84 rfl ?_
  refine xo_1 rfl rfl ?_
  refine xo_10lt rfl (am_sp ?_ ?_ H)
  · intro hc1 H
    refine xo_45 rfl (Nat.le_of_ble_eq_true rfl) ?_
    exact H
  · intro hc1 H
    refine xo_1 rfl rfl ?_
    refine xo_2 rfl rfl ?_
    refine xo_13r rfl cr_0_1 ?_
    refine xo_13 rfl cf_3_1 ?_
    refine xo_11lt rfl (am_sp ?_ ?_ H)
    · intro hc2 H
      refine xr_44 rfl ?_
      refine xo_2 rfl rfl ?_
      refine xo_1 rfl rfl ?_
      refine cl_59_0 rfl hd_84 rfl ?_
      refine xo_1 rfl rfl ?_
      refine xo_10lt rfl (am_sp ?_ ?_ H)
      · intro hc3 H
        refine xo_45 rfl (Nat.le_of_ble_eq_true rfl) ?_
        exact H
      · intro hc3 H
        refine xo_1 rfl rfl ?_
        refine xo_0 rfl ?_
        refine xo_11le rfl (am_sp ?_ ?_ H)
        · intro hc4 H
          refine xo_45 rfl (Nat.le_of_ble_eq_true rfl) ?_
          exact H
        · intro hc4 H
          refine xr_44 rfl ?_
          refine xo_2 rfl rfl ?_
          refine xo_1 rfl rfl ?_
          refine xo_1 rfl rfl ?_
          refine cl_85_0 rfl hd_84 rfl ?_
          exact H
    · intro hc2 H
      refine xo_45 rfl (Nat.le_of_ble_eq_true rfl) ?_
      exact H
theorem sm_84_16 {q1 : Option Value} {q2 : Option Value} {q3 : Option Value} {q4 : Option Value} {z0 : Int32} (hq1 : am_nl q1 = true) (hq2 : am_nl q2 = true) (hq3 : am_nl q3 = true) (hq4 : am_nl q4 = true) (H : am_X L xs d 93 0 [some (.ref 45), none, none, none] [] am_C0 h o g (fun w h' o' g' => am_X L xs (d + 1) 84 24 [some (.ref 0), q1, q2, some (.int z0), q4] (w.toList ++ []) am_C0 h' o' g' Q T) T) : am_X L xs (d + 1) 84 16 [some (.ref 0), q1, q2, q3, q4] [.int z0] am_C0 h o g Q T := by
  refine xo_4 (lv' := [some (.ref 0), q1, q2, some (.int z0), q4]) rfl hq2 rfl ?_
  refine xo_2 rfl rfl ?_
  refine xo_13r rfl cr_0_6 ?_
  refine cl_93_45 rfl hd_84 rfl ?_
  exact H
theorem sm_84_24 {q1 : Option Value} {q2 : Option Value} {x3 : Int32} {q4 : Option Value} (hq1 : am_nl q1 = true) (hq2 : am_nl q2 = true) (hq4 : am_nl q4 = true) (H : am_X L xs d 84 27 [some (.ref 0), q1, q2, some (.int x3), some (.int 0)] [] am_C0 h o g Q T) : am_X L xs d 84 24 [some (.ref 0), q1, q2, some (.int x3), q4] [] am_C0 h o g Q T := by
  refine xo_0 rfl ?_
  refine xo_4 (lv' := [some (.ref 0), q1, q2, some (.int x3), some (.int 0)]) rfl rfl rfl ?_
  exact H
theorem sm_84_27 {q1 : Option Value} {q2 : Option Value} {x3 : Int32} {x4 : Int32} (hq1 : am_nl q1 = true) (hq2 : am_nl q2 = true) (H : (if x4 < 5 then (am_ix x4 5 ∧ (if (h 47 x4.toNatClampNeg) = (-1) then am_X L xs d 84 27 [some (.ref 0), q1, q2, some (.int x3), some (.int (x4 + 1))] [] am_C0 (am_set (am_set h 62 x4.toNatClampNeg (h 47 x4.toNatClampNeg)) 63 x4.toNatClampNeg (-1)) o g Q T else am_X L xs d 84 27 [some (.ref 0), q1, q2, some (.int x3), some (.int (x4 + 1))] [] am_C0 (am_set (am_set h 62 x4.toNatClampNeg (h 47 x4.toNatClampNeg)) 63 x4.toNatClampNeg (h 48 x4.toNatClampNeg)) o g Q T)) else Q (some (.int x3)) (am_set h 0 11 1) o g)) : am_X L xs d 84 27 [some (.ref 0), q1, q2, some (.int x3), some (.int x4)] [] am_C0 h o g Q T := by
  refine xo_1 rfl rfl ?_
  refine xo_0 rfl ?_
  refine xo_11ge rfl (am_sp ?_ ?_ H)
  · intro hc1 H
    refine xo_2 rfl rfl ?_
    refine xo_13r rfl cr_0_9 ?_
    refine xo_1 rfl rfl ?_
    refine xo_2 rfl rfl ?_
    refine xo_13r rfl cr_0_6 ?_
    refine xo_13r rfl cr_45_1 ?_
    refine xo_1 rfl rfl ?_
    obtain ⟨hg2, H⟩ := H
    refine xo_17 rfl ca_47 hg2 ?_
    refine xo_22 rfl ca_62 hg2 ?_
    refine xo_2 rfl rfl ?_
    refine xo_13r rfl cr_0_10 ?_
    refine xo_1 rfl rfl ?_
    refine xo_2 rfl rfl ?_
    refine xo_13r rfl cr_0_6 ?_
    refine xo_13r rfl cr_45_1 ?_
    refine xo_1 rfl rfl ?_
    refine xo_17 rfl ca_47 hg2 ?_
    refine xo_0 rfl ?_
    refine xo_11ne rfl (am_sp ?_ ?_ H)
    · intro hc3 H
      refine xo_0 rfl ?_
      refine xo_12 rfl ?_
      refine xo_22 rfl ca_63 hg2 ?_
      refine xo_9 (z := (x4 + 1)) (lv' := [some (.ref 0), q1, q2, some (.int x3), some (.int (x4 + 1))]) rfl rfl rfl rfl rfl ?_
      refine xo_12 rfl ?_
      exact H
    · intro hc3 H
      refine xo_2 rfl rfl ?_
      refine xo_13r rfl cr_0_6 ?_
      refine xo_13r rfl cr_45_2 ?_
      refine xo_1 rfl rfl ?_
      refine xo_17 rfl ca_48 hg2 ?_
      refine xo_22 rfl ca_63 hg2 ?_
      refine xo_9 (z := (x4 + 1)) (lv' := [some (.ref 0), q1, q2, some (.int x3), some (.int (x4 + 1))]) rfl rfl rfl rfl rfl ?_
      refine xo_12 rfl ?_
      exact H
  · intro hc1 H
    refine xo_2 rfl rfl ?_
    refine xo_0 rfl ?_
    refine xo_15 rfl cf_0_11 rfl ?_
    refine xo_1 rfl rfl ?_
    refine xo_41 rfl ?_
    exact H
theorem sm_85 {x1 : Int32} {x2 : Int32} (H : am_X L xs d 86 0 [some (.ref 45), some (.int x2), none, none, none] [] am_C0 h o g (fun w h' o' g' => am_X L xs (d + 1) 85 8 [some (.ref 0), some (.int x1), some (.int x2), none] (w.toList ++ []) am_C0 h' o' g' Q T) T) : am_X L xs (d + 1) 85 0 [some (.ref 0), some (.int x1), some (.int x2), none] [] am_C0 h o g Q T := by
  refine xo_2 rfl rfl ?_
  refine xo_13r rfl cr_0_6 ?_
  refine xo_1 rfl rfl ?_
  refine cl_86_45 rfl hd_85 rfl ?_
  exact H
theorem sm_85_8 {x1 : Int32} {q2 : Option Value} {q3 : Option Value} (hq2 : am_nl q2 = true) (hq3 : am_nl q3 = true) (H : am_X L xs d 85 10 [some (.ref 0), some (.int x1), q2, some (.int 0)] [] am_C0 h o g Q T) : am_X L xs d 85 8 [some (.ref 0), some (.int x1), q2, q3] [] am_C0 h o g Q T := by
  refine xo_0 rfl ?_
  refine xo_4 (lv' := [some (.ref 0), some (.int x1), q2, some (.int 0)]) rfl hq2 rfl ?_
  exact H
theorem sm_85_10 {x1 : Int32} {q2 : Option Value} {x3 : Int32} (hq2 : am_nl q2 = true) (H : (if x3 < (h 3 0) then am_X L xs d 80 0 [some (.ref 0), some (.int x1), some (.int x3), some (.int (h 23 0)), some (.int (-1))] [] am_C0 h o g (fun w h' o' g' => am_X L xs (d + 1) 85 43 [some (.ref 0), some (.int x1), q2, some (.int x3)] (w.toList ++ [.int x3, .ref 46]) am_C0 h' o' g' Q T) T else am_X L xs d 87 0 [some (.ref 45), none] [] am_C0 h o g (fun w h' o' g' => am_X L xs (d + 1) 85 57 [some (.ref 0), some (.int x1), q2, some (.int x3)] (w.toList ++ []) am_C0 h' o' g' Q T) T)) : am_X L xs (d + 1) 85 10 [some (.ref 0), some (.int x1), q2, some (.int x3)] [] am_C0 h o g Q T := by
  refine xo_1 rfl rfl ?_
  refine xo_2 rfl rfl ?_
  refine xo_13r rfl cr_0_1 ?_
  refine xo_13 rfl cf_3_0 ?_
  refine xo_11ge rfl (am_sp ?_ ?_ H)
  · intro hc1 H
    refine xo_2 rfl rfl ?_
    refine xo_13r rfl cr_0_6 ?_
    refine xo_13r rfl cr_45_0 ?_
    refine xo_1 rfl rfl ?_
    refine xo_2 rfl rfl ?_
    refine xo_1 rfl rfl ?_
    refine xo_1 rfl rfl ?_
    refine xo_2 rfl rfl ?_
    refine xo_13r rfl cr_0_3 ?_
    refine xo_13 rfl cf_23_0 ?_
    refine xo_0 rfl ?_
    refine cl_80_0 rfl hd_85 rfl ?_
    exact H
  · intro hc1 H
    refine xo_2 rfl rfl ?_
    refine xo_13r rfl cr_0_6 ?_
    refine cl_87_45 rfl hd_85 rfl ?_
    exact H
theorem sm_85_43 {x1 : Int32} {q2 : Option Value} {x3 : Int32} {z1 : Int32} {z2 : Int32} (hq2 : am_nl q2 = true) (H : (am_ix z1 5 ∧ am_X L xs d 85 10 [some (.ref 0), some (.int x1), q2, some (.int (x3 + 1))] [] am_C0 (am_set h 46 z1.toNatClampNeg z2) o g Q T)) : am_X L xs d 85 43 [some (.ref 0), some (.int x1), q2, some (.int x3)] [.int z2, .int z1, .ref 46] am_C0 h o g Q T := by
  obtain ⟨hg1, H⟩ := H
  refine xo_22 rfl ca_46 hg1 ?_
  refine xo_9 (z := (x3 + 1)) (lv' := [some (.ref 0), some (.int x1), q2, some (.int (x3 + 1))]) rfl rfl rfl hq2 rfl ?_
  refine xo_12 rfl ?_
  exact H
theorem sm_85_57 {q0 : Option Value} {q1 : Option Value} {q2 : Option Value} {q3 : Option Value} {z0 : Int32} (hq0 : am_nl q0 = true) (hq1 : am_nl q1 = true) (hq2 : am_nl q2 = true) (hq3 : am_nl q3 = true) (H : Q (some (.int z0)) h o g) : am_X L xs d 85 57 [q0, q1, q2, q3] [.int z0] am_C0 h o g Q T := by
  refine xo_41 rfl ?_
  exact H
theorem sm_86 {x1 : Int32} (H : am_X L xs d 86 7 [some (.ref 45), some (.int x1), some (.int 0), none, none] [] am_C0 (am_set h 45 11 (-1)) o g Q T) : am_X L xs d 86 0 [some (.ref 45), some (.int x1), none, none, none] [] am_C0 h o g Q T := by
  refine xo_2 rfl rfl ?_
  refine xo_0 rfl ?_
  refine xo_14 rfl cf_45_11 ?_
  refine xo_0 rfl ?_
  refine xo_4 (lv' := [some (.ref 45), some (.int x1), some (.int 0), none, none]) rfl rfl rfl ?_
  exact H
theorem sm_86_7 {x1 : Int32} {x2 : Int32} {q3 : Option Value} {q4 : Option Value} (hq3 : am_nl q3 = true) (hq4 : am_nl q4 = true) (H : (if x2 < (h 3 0) then am_X L xs d 86 20 [some (.ref 45), some (.int x1), some (.int x2), some (.int 0), q4] [] am_C0 h o g Q T else Q none h o g)) : am_X L xs d 86 7 [some (.ref 45), some (.int x1), some (.int x2), q3, q4] [] am_C0 h o g Q T := by
  refine xo_1 rfl rfl ?_
  refine xo_2 rfl rfl ?_
  refine xo_13r rfl cr_45_3 ?_
  refine xo_13 rfl cf_3_0 ?_
  refine xo_11ge rfl (am_sp ?_ ?_ H)
  · intro hc1 H
    refine xo_0 rfl ?_
    refine xo_4 (lv' := [some (.ref 45), some (.int x1), some (.int x2), some (.int 0), q4]) rfl rfl rfl ?_
    exact H
  · intro hc1 H
    refine xo_44 rfl ?_
    exact H
theorem sm_86_20 {x1 : Int32} {x2 : Int32} {x3 : Int32} {q4 : Option Value} (hq4 : am_nl q4 = true) (H : (if x3 < (h 3 2) then am_X L xs d 86 34 [some (.ref 45), some (.int x1), some (.int x2), some (.int x3), some (.int 0)] [] am_C0 h o g Q T else am_X L xs d 86 7 [some (.ref 45), some (.int x1), some (.int (x2 + 1)), some (.int x3), q4] [] am_C0 h o g Q T)) : am_X L xs d 86 20 [some (.ref 45), some (.int x1), some (.int x2), some (.int x3), q4] [] am_C0 h o g Q T := by
  refine xo_1 rfl rfl ?_
  refine xo_2 rfl rfl ?_
  refine xo_13r rfl cr_45_3 ?_
  refine xo_13 rfl cf_3_2 ?_
  refine xo_11ge rfl (am_sp ?_ ?_ H)
  · intro hc1 H
    refine xo_0 rfl ?_
    refine xo_4 (lv' := [some (.ref 45), some (.int x1), some (.int x2), some (.int x3), some (.int 0)]) rfl rfl rfl ?_
    exact H
  · intro hc1 H
    refine xo_9 (z := (x2 + 1)) (lv' := [some (.ref 45), some (.int x1), some (.int (x2 + 1)), some (.int x3), q4]) rfl rfl rfl rfl rfl ?_
    refine xo_12 rfl ?_
    exact H
theorem sm_86_34 {x1 : Int32} {x2 : Int32} {x3 : Int32} {x4 : Int32} (H : (if (h 12 2) < x4 then am_X L xs (d + 1) 86 20 [some (.ref 45), some (.int x1), some (.int x2), some (.int (x3 + 1)), some (.int x4)] [] am_C0 h o g Q T else (if x2 = 0 then (am_ix x2 5 ∧ am_X L xs d 60 0 [some (.ref 3), some (.int x3), some (.int ((h 6 x2.toNatClampNeg) + x4)), some (.int (h 7 x2.toNatClampNeg)), some (.int x1), none, none, none] [] am_C0 h o g (fun w h' o' g' => am_X L xs (d + 1) 86 90 [some (.ref 45), some (.int x1), some (.int x2), some (.int x3), some (.int x4)] (w.toList ++ [.int ((3 * x3) + x4), .ref 50]) am_C0 h' o' g' Q T) T) else (if x2 = 1 then (am_ix x2 5 ∧ am_X L xs d 60 0 [some (.ref 3), some (.int x3), some (.int ((h 6 x2.toNatClampNeg) + x4)), some (.int (h 7 x2.toNatClampNeg)), some (.int x1), none, none, none] [] am_C0 h o g (fun w h' o' g' => am_X L xs (d + 1) 86 90 [some (.ref 45), some (.int x1), some (.int x2), some (.int x3), some (.int x4)] (w.toList ++ [.int ((3 * x3) + x4), .ref 51]) am_C0 h' o' g' Q T) T) else (if x2 = 2 then (am_ix x2 5 ∧ am_X L xs d 60 0 [some (.ref 3), some (.int x3), some (.int ((h 6 x2.toNatClampNeg) + x4)), some (.int (h 7 x2.toNatClampNeg)), some (.int x1), none, none, none] [] am_C0 h o g (fun w h' o' g' => am_X L xs (d + 1) 86 90 [some (.ref 45), some (.int x1), some (.int x2), some (.int x3), some (.int x4)] (w.toList ++ [.int ((3 * x3) + x4), .ref 52]) am_C0 h' o' g' Q T) T) else (if x2 = 3 then (am_ix x2 5 ∧ am_X L xs d 60 0 [some (.ref 3), some (.int x3), some (.int ((h 6 x2.toNatClampNeg) + x4)), some (.int (h 7 x2.toNatClampNeg)), some (.int x1), none, none, none] [] am_C0 h o g (fun w h' o' g' => am_X L xs (d + 1) 86 90 [some (.ref 45), some (.int x1), some (.int x2), some (.int x3), some (.int x4)] (w.toList ++ [.int ((3 * x3) + x4), .ref 53]) am_C0 h' o' g' Q T) T) else (if x2 = 4 then (am_ix x2 5 ∧ am_X L xs d 60 0 [some (.ref 3), some (.int x3), some (.int ((h 6 x2.toNatClampNeg) + x4)), some (.int (h 7 x2.toNatClampNeg)), some (.int x1), none, none, none] [] am_C0 h o g (fun w h' o' g' => am_X L xs (d + 1) 86 90 [some (.ref 45), some (.int x1), some (.int x2), some (.int x3), some (.int x4)] (w.toList ++ [.int ((3 * x3) + x4), .ref 54]) am_C0 h' o' g' Q T) T) else False))))))) : am_X L xs (d + 1) 86 34 [some (.ref 45), some (.int x1), some (.int x2), some (.int x3), some (.int x4)] [] am_C0 h o g Q T := by
  refine xo_1 rfl rfl ?_
  refine xo_2 rfl rfl ?_
  refine xo_13r rfl cr_45_3 ?_
  refine xo_13r rfl cr_3_11 ?_
  refine xo_0 rfl ?_
  refine xo_17 rfl ca_12 (am_ix.lit rfl) ?_
  refine xo_11gt rfl (am_sp ?_ ?_ H)
  · intro hc1 H
    refine xo_9 (z := (x3 + 1)) (lv' := [some (.ref 45), some (.int x1), some (.int x2), some (.int (x3 + 1)), some (.int x4)]) rfl rfl rfl rfl rfl ?_
    refine xo_12 rfl ?_
    exact H
  · intro hc1 H
    refine xo_2 rfl rfl ?_
    refine xo_13r rfl cr_45_4 ?_
    refine xo_1 rfl rfl ?_
    by_cases hc2 : x2 = 0
    · rw [if_pos hc2] at H
      refine xo_20 (w := 50) rfl cb_49 (by rw [hc2]; exact am_ix.lit rfl) (by rw [hc2]; rfl) ?_
      refine xo_0 rfl ?_
      refine xo_1 rfl rfl ?_
      refine xo_7 rfl rfl ?_
      refine xo_1 rfl rfl ?_
      refine xo_7 rfl rfl ?_
      refine xo_2 rfl rfl ?_
      refine xo_13r rfl cr_45_3 ?_
      refine xo_1 rfl rfl ?_
      refine xo_2 rfl rfl ?_
      refine xo_13r rfl cr_45_3 ?_
      refine xo_13r rfl cr_3_5 ?_
      refine xo_1 rfl rfl ?_
      obtain ⟨hg3, H⟩ := H
      refine xo_17 rfl ca_6 hg3 ?_
      refine xo_1 rfl rfl ?_
      refine xo_7 rfl rfl ?_
      refine xo_2 rfl rfl ?_
      refine xo_13r rfl cr_45_3 ?_
      refine xo_13r rfl cr_3_6 ?_
      refine xo_1 rfl rfl ?_
      refine xo_17 rfl ca_7 hg3 ?_
      refine xo_1 rfl rfl ?_
      refine cl_60_3 rfl hd_86 rfl ?_
      exact H
    · rw [if_neg hc2] at H
      by_cases hc4 : x2 = 1
      · rw [if_pos hc4] at H
        refine xo_20 (w := 51) rfl cb_49 (by rw [hc4]; exact am_ix.lit rfl) (by rw [hc4]; rfl) ?_
        refine xo_0 rfl ?_
        refine xo_1 rfl rfl ?_
        refine xo_7 rfl rfl ?_
        refine xo_1 rfl rfl ?_
        refine xo_7 rfl rfl ?_
        refine xo_2 rfl rfl ?_
        refine xo_13r rfl cr_45_3 ?_
        refine xo_1 rfl rfl ?_
        refine xo_2 rfl rfl ?_
        refine xo_13r rfl cr_45_3 ?_
        refine xo_13r rfl cr_3_5 ?_
        refine xo_1 rfl rfl ?_
        obtain ⟨hg5, H⟩ := H
        refine xo_17 rfl ca_6 hg5 ?_
        refine xo_1 rfl rfl ?_
        refine xo_7 rfl rfl ?_
        refine xo_2 rfl rfl ?_
        refine xo_13r rfl cr_45_3 ?_
        refine xo_13r rfl cr_3_6 ?_
        refine xo_1 rfl rfl ?_
        refine xo_17 rfl ca_7 hg5 ?_
        refine xo_1 rfl rfl ?_
        refine cl_60_3 rfl hd_86 rfl ?_
        exact H
      · rw [if_neg hc4] at H
        by_cases hc6 : x2 = 2
        · rw [if_pos hc6] at H
          refine xo_20 (w := 52) rfl cb_49 (by rw [hc6]; exact am_ix.lit rfl) (by rw [hc6]; rfl) ?_
          refine xo_0 rfl ?_
          refine xo_1 rfl rfl ?_
          refine xo_7 rfl rfl ?_
          refine xo_1 rfl rfl ?_
          refine xo_7 rfl rfl ?_
          refine xo_2 rfl rfl ?_
          refine xo_13r rfl cr_45_3 ?_
          refine xo_1 rfl rfl ?_
          refine xo_2 rfl rfl ?_
          refine xo_13r rfl cr_45_3 ?_
          refine xo_13r rfl cr_3_5 ?_
          refine xo_1 rfl rfl ?_
          obtain ⟨hg7, H⟩ := H
          refine xo_17 rfl ca_6 hg7 ?_
          refine xo_1 rfl rfl ?_
          refine xo_7 rfl rfl ?_
          refine xo_2 rfl rfl ?_
          refine xo_13r rfl cr_45_3 ?_
          refine xo_13r rfl cr_3_6 ?_
          refine xo_1 rfl rfl ?_
          refine xo_17 rfl ca_7 hg7 ?_
          refine xo_1 rfl rfl ?_
          refine cl_60_3 rfl hd_86 rfl ?_
          exact H
        · rw [if_neg hc6] at H
          by_cases hc8 : x2 = 3
          · rw [if_pos hc8] at H
            refine xo_20 (w := 53) rfl cb_49 (by rw [hc8]; exact am_ix.lit rfl) (by rw [hc8]; rfl) ?_
            refine xo_0 rfl ?_
            refine xo_1 rfl rfl ?_
            refine xo_7 rfl rfl ?_
            refine xo_1 rfl rfl ?_
            refine xo_7 rfl rfl ?_
            refine xo_2 rfl rfl ?_
            refine xo_13r rfl cr_45_3 ?_
            refine xo_1 rfl rfl ?_
            refine xo_2 rfl rfl ?_
            refine xo_13r rfl cr_45_3 ?_
            refine xo_13r rfl cr_3_5 ?_
            refine xo_1 rfl rfl ?_
            obtain ⟨hg9, H⟩ := H
            refine xo_17 rfl ca_6 hg9 ?_
            refine xo_1 rfl rfl ?_
            refine xo_7 rfl rfl ?_
            refine xo_2 rfl rfl ?_
            refine xo_13r rfl cr_45_3 ?_
            refine xo_13r rfl cr_3_6 ?_
            refine xo_1 rfl rfl ?_
            refine xo_17 rfl ca_7 hg9 ?_
            refine xo_1 rfl rfl ?_
            refine cl_60_3 rfl hd_86 rfl ?_
            exact H
          · rw [if_neg hc8] at H
            by_cases hc10 : x2 = 4
            · rw [if_pos hc10] at H
              refine xo_20 (w := 54) rfl cb_49 (by rw [hc10]; exact am_ix.lit rfl) (by rw [hc10]; rfl) ?_
              refine xo_0 rfl ?_
              refine xo_1 rfl rfl ?_
              refine xo_7 rfl rfl ?_
              refine xo_1 rfl rfl ?_
              refine xo_7 rfl rfl ?_
              refine xo_2 rfl rfl ?_
              refine xo_13r rfl cr_45_3 ?_
              refine xo_1 rfl rfl ?_
              refine xo_2 rfl rfl ?_
              refine xo_13r rfl cr_45_3 ?_
              refine xo_13r rfl cr_3_5 ?_
              refine xo_1 rfl rfl ?_
              obtain ⟨hg11, H⟩ := H
              refine xo_17 rfl ca_6 hg11 ?_
              refine xo_1 rfl rfl ?_
              refine xo_7 rfl rfl ?_
              refine xo_2 rfl rfl ?_
              refine xo_13r rfl cr_45_3 ?_
              refine xo_13r rfl cr_3_6 ?_
              refine xo_1 rfl rfl ?_
              refine xo_17 rfl ca_7 hg11 ?_
              refine xo_1 rfl rfl ?_
              refine cl_60_3 rfl hd_86 rfl ?_
              exact H
            · rw [if_neg hc10] at H
              exact absurd H id
theorem sm_86_90 {x1 : Int32} {x2 : Int32} {x3 : Int32} {x4 : Int32} {z1 : Int32} {z2 : Int32} (H : (am_ix z1 15 ∧ am_X L xs d 86 34 [some (.ref 45), some (.int x1), some (.int x2), some (.int x3), some (.int (x4 + 1))] [] am_C0 (am_set h 50 z1.toNatClampNeg z2) o g Q T)) : am_X L xs d 86 90 [some (.ref 45), some (.int x1), some (.int x2), some (.int x3), some (.int x4)] [.int z2, .int z1, .ref 50] am_C0 h o g Q T := by
  obtain ⟨hg1, H⟩ := H
  refine xo_22 rfl ca_50 hg1 ?_
  refine xo_9 (z := (x4 + 1)) (lv' := [some (.ref 45), some (.int x1), some (.int x2), some (.int x3), some (.int (x4 + 1))]) rfl rfl rfl rfl rfl ?_
  refine xo_12 rfl ?_
  exact H
theorem sm_87 (H : am_X L xs d 87 2 [some (.ref 45), some (.int 0)] [] am_C0 h o g Q T) : am_X L xs d 87 0 [some (.ref 45), none] [] am_C0 h o g Q T := by
  refine xo_0 rfl ?_
  refine xo_4 (lv' := [some (.ref 45), some (.int 0)]) rfl rfl rfl ?_
  exact H
theorem sm_87_2 {x1 : Int32} (H : (if x1 < (h 3 0) then (am_ix x1 5 ∧ am_X L xs d 88 0 [some (.ref 45), some (.int x1), some (.int (h 46 x1.toNatClampNeg)), none, none] [] am_C0 h o g (fun w h' o' g' => am_X L xs (d + 1) 87 29 [some (.ref 45), some (.int x1)] (w.toList ++ [.int x1, .ref 55]) am_C0 h' o' g' Q T) T) else am_X L xs d 90 0 [some (.ref 45), some (.int (-1)), none] [] am_C0 h o g (fun w h' o' g' => am_X L xs (d + 1) 87 42 [some (.ref 45), some (.int x1)] (w.toList ++ [.ref 45]) am_C0 h' o' g' Q T) T)) : am_X L xs (d + 1) 87 2 [some (.ref 45), some (.int x1)] [] am_C0 h o g Q T := by
  refine xo_1 rfl rfl ?_
  refine xo_2 rfl rfl ?_
  refine xo_13r rfl cr_45_3 ?_
  refine xo_13 rfl cf_3_0 ?_
  refine xo_11ge rfl (am_sp ?_ ?_ H)
  · intro hc1 H
    refine xo_2 rfl rfl ?_
    refine xo_13r rfl cr_45_5 ?_
    refine xo_1 rfl rfl ?_
    refine xo_2 rfl rfl ?_
    refine xo_1 rfl rfl ?_
    refine xo_2 rfl rfl ?_
    refine xo_13r rfl cr_45_0 ?_
    refine xo_1 rfl rfl ?_
    obtain ⟨hg2, H⟩ := H
    refine xo_17 rfl ca_46 hg2 ?_
    refine cl_88_45 rfl hd_87 rfl ?_
    exact H
  · intro hc1 H
    refine xo_2 rfl rfl ?_
    refine xo_2 rfl rfl ?_
    refine xo_0 rfl ?_
    refine cl_90_45 rfl hd_87 rfl ?_
    exact H
theorem sm_87_29 {x1 : Int32} {z1 : Int32} {z2 : Int32} (H : (am_ix z1 5 ∧ am_X L xs d 87 2 [some (.ref 45), some (.int (x1 + 1))] [] am_C0 (am_set h 55 z1.toNatClampNeg z2) o g Q T)) : am_X L xs d 87 29 [some (.ref 45), some (.int x1)] [.int z2, .int z1, .ref 55] am_C0 h o g Q T := by
  obtain ⟨hg1, H⟩ := H
  refine xo_22 rfl ca_55 hg1 ?_
  refine xo_9 (z := (x1 + 1)) (lv' := [some (.ref 45), some (.int (x1 + 1))]) rfl rfl rfl rfl rfl ?_
  refine xo_12 rfl ?_
  exact H
theorem sm_87_42 {q1 : Option Value} {z1 : Int32} (hq1 : am_nl q1 = true) (H : Q (some (.int z1)) (am_set h 45 10 z1) o g) : am_X L xs d 87 42 [some (.ref 45), q1] [.int z1, .ref 45] am_C0 h o g Q T := by
  refine xo_14 rfl cf_45_10 ?_
  refine xo_2 rfl rfl ?_
  refine xo_13 rfl cf_45_10 ?_
  refine xo_41 rfl ?_
  exact H
theorem sm_88 {x1 : Int32} {x2 : Int32} (H : am_X L xs d 88 5 [some (.ref 45), some (.int x1), some (.int x2), some (.int 0), some (.int 0)] [] am_C0 h o g Q T) : am_X L xs d 88 0 [some (.ref 45), some (.int x1), some (.int x2), none, none] [] am_C0 h o g Q T := by
  refine xo_0 rfl ?_
  refine xo_4 (lv' := [some (.ref 45), some (.int x1), some (.int x2), some (.int 0), none]) rfl rfl rfl ?_
  refine xo_0 rfl ?_
  refine xo_4 (lv' := [some (.ref 45), some (.int x1), some (.int x2), some (.int 0), some (.int 0)]) rfl rfl rfl ?_
  exact H
theorem sm_88_5 {x1 : Int32} {x2 : Int32} {x3 : Int32} {x4 : Int32} (H : (if x4 < (h 3 2) then am_X L xs d 89 0 [some (.ref 45), some (.int x4), some (.int x1), some (.int x2), none, none] [] am_C0 h o g (fun w h' o' g' => am_X L xs (d + 1) 88 26 [some (.ref 45), some (.int x1), some (.int x2), some (.int x3), some (.int x4)] (w.toList ++ [.int x3]) am_C0 h' o' g' Q T) T else Q (some (.int x3)) h o g)) : am_X L xs (d + 1) 88 5 [some (.ref 45), some (.int x1), some (.int x2), some (.int x3), some (.int x4)] [] am_C0 h o g Q T := by
  refine xo_1 rfl rfl ?_
  refine xo_2 rfl rfl ?_
  refine xo_13r rfl cr_45_3 ?_
  refine xo_13 rfl cf_3_2 ?_
  refine xo_11ge rfl (am_sp ?_ ?_ H)
  · intro hc1 H
    refine xo_1 rfl rfl ?_
    refine xo_2 rfl rfl ?_
    refine xo_1 rfl rfl ?_
    refine xo_1 rfl rfl ?_
    refine xo_1 rfl rfl ?_
    refine cl_89_45 rfl hd_88 rfl ?_
    exact H
  · intro hc1 H
    refine xo_1 rfl rfl ?_
    refine xo_41 rfl ?_
    exact H
theorem sm_88_26 {x1 : Int32} {x2 : Int32} {q3 : Option Value} {x4 : Int32} {z0 : Int32} {z1 : Int32} (hq3 : am_nl q3 = true) (H : am_X L xs d 88 5 [some (.ref 45), some (.int x1), some (.int x2), some (.int (z0 + z1)), some (.int (x4 + 1))] [] am_C0 h o g Q T) : am_X L xs d 88 26 [some (.ref 45), some (.int x1), some (.int x2), q3, some (.int x4)] [.int z1, .int z0] am_C0 h o g Q T := by
  refine xo_7 rfl rfl ?_
  refine xo_4 (lv' := [some (.ref 45), some (.int x1), some (.int x2), some (.int (z0 + z1)), some (.int x4)]) rfl rfl rfl ?_
  refine xo_9 (z := (x4 + 1)) (lv' := [some (.ref 45), some (.int x1), some (.int x2), some (.int (z0 + z1)), some (.int (x4 + 1))]) rfl rfl rfl rfl rfl ?_
  refine xo_12 rfl ?_
  exact H
theorem sm_89 {x1 : Int32} {x2 : Int32} {x3 : Int32} (H : am_X L xs d 89 6 [some (.ref 45), some (.int x1), some (.int x2), some (.int x3), some (.int 0), some (.int 0)] [] am_C0 h o g Q T) : am_X L xs d 89 0 [some (.ref 45), some (.int x1), some (.int x2), some (.int x3), none, none] [] am_C0 h o g Q T := by
  refine xo_0 rfl ?_
  refine xo_4 (lv' := [some (.ref 45), some (.int x1), some (.int x2), some (.int x3), some (.int 0), none]) rfl rfl rfl ?_
  refine xo_0 rfl ?_
  refine xo_4 (lv' := [some (.ref 45), some (.int x1), some (.int x2), some (.int x3), some (.int 0), some (.int 0)]) rfl rfl rfl ?_
  exact H
theorem sm_89_6 {x1 : Int32} {x2 : Int32} {x3 : Int32} {x4 : Int32} {x5 : Int32} (H : (if (h 12 2) < x5 then Q (some (.int x4)) h o g else (if x2 = 0 then (am_ix ((3 * x1) + x5) 15 ∧ (if (h 50 (((3 * x1) + x5).toNatClampNeg)) < x3 then am_X L xs d 89 6 [some (.ref 45), some (.int x1), some (.int x2), some (.int x3), some (.int x4), some (.int (x5 + 1))] [] am_C0 h o g Q T else am_X L xs d 89 6 [some (.ref 45), some (.int x1), some (.int x2), some (.int x3), some (.int (x4 + 1)), some (.int (x5 + 1))] [] am_C0 h o g Q T)) else (if x2 = 1 then (am_ix ((3 * x1) + x5) 15 ∧ (if (h 51 (((3 * x1) + x5).toNatClampNeg)) < x3 then am_X L xs d 89 6 [some (.ref 45), some (.int x1), some (.int x2), some (.int x3), some (.int x4), some (.int (x5 + 1))] [] am_C0 h o g Q T else am_X L xs d 89 6 [some (.ref 45), some (.int x1), some (.int x2), some (.int x3), some (.int (x4 + 1)), some (.int (x5 + 1))] [] am_C0 h o g Q T)) else (if x2 = 2 then (am_ix ((3 * x1) + x5) 15 ∧ (if (h 52 (((3 * x1) + x5).toNatClampNeg)) < x3 then am_X L xs d 89 6 [some (.ref 45), some (.int x1), some (.int x2), some (.int x3), some (.int x4), some (.int (x5 + 1))] [] am_C0 h o g Q T else am_X L xs d 89 6 [some (.ref 45), some (.int x1), some (.int x2), some (.int x3), some (.int (x4 + 1)), some (.int (x5 + 1))] [] am_C0 h o g Q T)) else (if x2 = 3 then (am_ix ((3 * x1) + x5) 15 ∧ (if (h 53 (((3 * x1) + x5).toNatClampNeg)) < x3 then am_X L xs d 89 6 [some (.ref 45), some (.int x1), some (.int x2), some (.int x3), some (.int x4), some (.int (x5 + 1))] [] am_C0 h o g Q T else am_X L xs d 89 6 [some (.ref 45), some (.int x1), some (.int x2), some (.int x3), some (.int (x4 + 1)), some (.int (x5 + 1))] [] am_C0 h o g Q T)) else (if x2 = 4 then (am_ix ((3 * x1) + x5) 15 ∧ (if (h 54 (((3 * x1) + x5).toNatClampNeg)) < x3 then am_X L xs d 89 6 [some (.ref 45), some (.int x1), some (.int x2), some (.int x3), some (.int x4), some (.int (x5 + 1))] [] am_C0 h o g Q T else am_X L xs d 89 6 [some (.ref 45), some (.int x1), some (.int x2), some (.int x3), some (.int (x4 + 1)), some (.int (x5 + 1))] [] am_C0 h o g Q T)) else False))))))) : am_X L xs d 89 6 [some (.ref 45), some (.int x1), some (.int x2), some (.int x3), some (.int x4), some (.int x5)] [] am_C0 h o g Q T := by
  refine xo_1 rfl rfl ?_
  refine xo_2 rfl rfl ?_
  refine xo_13r rfl cr_45_3 ?_
  refine xo_13r rfl cr_3_11 ?_
  refine xo_0 rfl ?_
  refine xo_17 rfl ca_12 (am_ix.lit rfl) ?_
  refine xo_11gt rfl (am_sp ?_ ?_ H)
  · intro hc1 H
    refine xo_1 rfl rfl ?_
    refine xo_41 rfl ?_
    exact H
  · intro hc1 H
    refine xo_1 rfl rfl ?_
    refine xo_2 rfl rfl ?_
    refine xo_13r rfl cr_45_4 ?_
    refine xo_1 rfl rfl ?_
    by_cases hc2 : x2 = 0
    · rw [if_pos hc2] at H
      refine xo_20 (w := 50) rfl cb_49 (by rw [hc2]; exact am_ix.lit rfl) (by rw [hc2]; rfl) ?_
      refine xo_0 rfl ?_
      refine xo_1 rfl rfl ?_
      refine xo_7 rfl rfl ?_
      refine xo_1 rfl rfl ?_
      refine xo_7 rfl rfl ?_
      obtain ⟨hg3, H⟩ := H
      refine xo_17 rfl ca_50 hg3 ?_
      refine xo_11gt rfl (am_sp ?_ ?_ H)
      · intro hc4 H
        refine xo_9 (z := (x5 + 1)) (lv' := [some (.ref 45), some (.int x1), some (.int x2), some (.int x3), some (.int x4), some (.int (x5 + 1))]) rfl rfl rfl rfl rfl ?_
        refine xo_12 rfl ?_
        exact H
      · intro hc4 H
        refine xo_9 (z := (x4 + 1)) (lv' := [some (.ref 45), some (.int x1), some (.int x2), some (.int x3), some (.int (x4 + 1)), some (.int x5)]) rfl rfl rfl rfl rfl ?_
        refine xo_9 (z := (x5 + 1)) (lv' := [some (.ref 45), some (.int x1), some (.int x2), some (.int x3), some (.int (x4 + 1)), some (.int (x5 + 1))]) rfl rfl rfl rfl rfl ?_
        refine xo_12 rfl ?_
        exact H
    · rw [if_neg hc2] at H
      by_cases hc5 : x2 = 1
      · rw [if_pos hc5] at H
        refine xo_20 (w := 51) rfl cb_49 (by rw [hc5]; exact am_ix.lit rfl) (by rw [hc5]; rfl) ?_
        refine xo_0 rfl ?_
        refine xo_1 rfl rfl ?_
        refine xo_7 rfl rfl ?_
        refine xo_1 rfl rfl ?_
        refine xo_7 rfl rfl ?_
        obtain ⟨hg6, H⟩ := H
        refine xo_17 rfl ca_51 hg6 ?_
        refine xo_11gt rfl (am_sp ?_ ?_ H)
        · intro hc7 H
          refine xo_9 (z := (x5 + 1)) (lv' := [some (.ref 45), some (.int x1), some (.int x2), some (.int x3), some (.int x4), some (.int (x5 + 1))]) rfl rfl rfl rfl rfl ?_
          refine xo_12 rfl ?_
          exact H
        · intro hc7 H
          refine xo_9 (z := (x4 + 1)) (lv' := [some (.ref 45), some (.int x1), some (.int x2), some (.int x3), some (.int (x4 + 1)), some (.int x5)]) rfl rfl rfl rfl rfl ?_
          refine xo_9 (z := (x5 + 1)) (lv' := [some (.ref 45), some (.int x1), some (.int x2), some (.int x3), some (.int (x4 + 1)), some (.int (x5 + 1))]) rfl rfl rfl rfl rfl ?_
          refine xo_12 rfl ?_
          exact H
      · rw [if_neg hc5] at H
        by_cases hc8 : x2 = 2
        · rw [if_pos hc8] at H
          refine xo_20 (w := 52) rfl cb_49 (by rw [hc8]; exact am_ix.lit rfl) (by rw [hc8]; rfl) ?_
          refine xo_0 rfl ?_
          refine xo_1 rfl rfl ?_
          refine xo_7 rfl rfl ?_
          refine xo_1 rfl rfl ?_
          refine xo_7 rfl rfl ?_
          obtain ⟨hg9, H⟩ := H
          refine xo_17 rfl ca_52 hg9 ?_
          refine xo_11gt rfl (am_sp ?_ ?_ H)
          · intro hc10 H
            refine xo_9 (z := (x5 + 1)) (lv' := [some (.ref 45), some (.int x1), some (.int x2), some (.int x3), some (.int x4), some (.int (x5 + 1))]) rfl rfl rfl rfl rfl ?_
            refine xo_12 rfl ?_
            exact H
          · intro hc10 H
            refine xo_9 (z := (x4 + 1)) (lv' := [some (.ref 45), some (.int x1), some (.int x2), some (.int x3), some (.int (x4 + 1)), some (.int x5)]) rfl rfl rfl rfl rfl ?_
            refine xo_9 (z := (x5 + 1)) (lv' := [some (.ref 45), some (.int x1), some (.int x2), some (.int x3), some (.int (x4 + 1)), some (.int (x5 + 1))]) rfl rfl rfl rfl rfl ?_
            refine xo_12 rfl ?_
            exact H
        · rw [if_neg hc8] at H
          by_cases hc11 : x2 = 3
          · rw [if_pos hc11] at H
            refine xo_20 (w := 53) rfl cb_49 (by rw [hc11]; exact am_ix.lit rfl) (by rw [hc11]; rfl) ?_
            refine xo_0 rfl ?_
            refine xo_1 rfl rfl ?_
            refine xo_7 rfl rfl ?_
            refine xo_1 rfl rfl ?_
            refine xo_7 rfl rfl ?_
            obtain ⟨hg12, H⟩ := H
            refine xo_17 rfl ca_53 hg12 ?_
            refine xo_11gt rfl (am_sp ?_ ?_ H)
            · intro hc13 H
              refine xo_9 (z := (x5 + 1)) (lv' := [some (.ref 45), some (.int x1), some (.int x2), some (.int x3), some (.int x4), some (.int (x5 + 1))]) rfl rfl rfl rfl rfl ?_
              refine xo_12 rfl ?_
              exact H
            · intro hc13 H
              refine xo_9 (z := (x4 + 1)) (lv' := [some (.ref 45), some (.int x1), some (.int x2), some (.int x3), some (.int (x4 + 1)), some (.int x5)]) rfl rfl rfl rfl rfl ?_
              refine xo_9 (z := (x5 + 1)) (lv' := [some (.ref 45), some (.int x1), some (.int x2), some (.int x3), some (.int (x4 + 1)), some (.int (x5 + 1))]) rfl rfl rfl rfl rfl ?_
              refine xo_12 rfl ?_
              exact H
          · rw [if_neg hc11] at H
            by_cases hc14 : x2 = 4
            · rw [if_pos hc14] at H
              refine xo_20 (w := 54) rfl cb_49 (by rw [hc14]; exact am_ix.lit rfl) (by rw [hc14]; rfl) ?_
              refine xo_0 rfl ?_
              refine xo_1 rfl rfl ?_
              refine xo_7 rfl rfl ?_
              refine xo_1 rfl rfl ?_
              refine xo_7 rfl rfl ?_
              obtain ⟨hg15, H⟩ := H
              refine xo_17 rfl ca_54 hg15 ?_
              refine xo_11gt rfl (am_sp ?_ ?_ H)
              · intro hc16 H
                refine xo_9 (z := (x5 + 1)) (lv' := [some (.ref 45), some (.int x1), some (.int x2), some (.int x3), some (.int x4), some (.int (x5 + 1))]) rfl rfl rfl rfl rfl ?_
                refine xo_12 rfl ?_
                exact H
              · intro hc16 H
                refine xo_9 (z := (x4 + 1)) (lv' := [some (.ref 45), some (.int x1), some (.int x2), some (.int x3), some (.int (x4 + 1)), some (.int x5)]) rfl rfl rfl rfl rfl ?_
                refine xo_9 (z := (x5 + 1)) (lv' := [some (.ref 45), some (.int x1), some (.int x2), some (.int x3), some (.int (x4 + 1)), some (.int (x5 + 1))]) rfl rfl rfl rfl rfl ?_
                refine xo_12 rfl ?_
                exact H
            · rw [if_neg hc14] at H
              exact absurd H id
theorem sm_90 {x1 : Int32} (H : (am_ix (h 3 0) 6 ∧ am_X L xs d 90 23 [some (.ref 45), some (.int x1), some (.int ((h 3 0) - 1))] [] am_C0 (am_set h 56 ((h 3 0).toNatClampNeg) 0) o g Q T)) : am_X L xs d 90 0 [some (.ref 45), some (.int x1), none] [] am_C0 h o g Q T := by
  refine xo_2 rfl rfl ?_
  refine xo_13r rfl cr_45_6 ?_
  refine xo_2 rfl rfl ?_
  refine xo_13r rfl cr_45_3 ?_
  refine xo_13 rfl cf_3_0 ?_
  refine xo_0 rfl ?_
  obtain ⟨hg1, H⟩ := H
  refine xo_22 rfl ca_56 hg1 ?_
  refine xo_2 rfl rfl ?_
  refine xo_13r rfl cr_45_3 ?_
  refine xo_13 rfl cf_3_0 ?_
  refine xo_0 rfl ?_
  refine xo_7 rfl rfl ?_
  refine xo_4 (lv' := [some (.ref 45), some (.int x1), some (.int ((h 3 0) - 1))]) rfl rfl rfl ?_
  exact H
theorem sm_90_23 {x1 : Int32} {x2 : Int32} (H : (if x2 < 0 then am_X L xs d 90 64 [some (.ref 45), some (.int x1), some (.int 0)] [] am_C0 h o g Q T else (am_ix (x2 + 1) 6 ∧ (am_ix x2 5 ∧ (if 0 < (h 55 x2.toNatClampNeg) then (am_ix x2 6 ∧ am_X L xs d 90 23 [some (.ref 45), some (.int x1), some (.int (x2 + (-1)))] [] am_C0 (am_set h 56 x2.toNatClampNeg ((h 56 ((x2 + 1).toNatClampNeg)) + 1)) o g Q T) else (am_ix x2 6 ∧ am_X L xs d 90 23 [some (.ref 45), some (.int x1), some (.int (x2 + (-1)))] [] am_C0 (am_set h 56 x2.toNatClampNeg ((h 56 ((x2 + 1).toNatClampNeg)) + 0)) o g Q T)))))) : am_X L xs d 90 23 [some (.ref 45), some (.int x1), some (.int x2)] [] am_C0 h o g Q T := by
  refine xo_1 rfl rfl ?_
  refine xo_10lt rfl (am_sp ?_ ?_ H)
  · intro hc1 H
    refine xo_0 rfl ?_
    refine xo_4 (lv' := [some (.ref 45), some (.int x1), some (.int 0)]) rfl rfl rfl ?_
    exact H
  · intro hc1 H
    refine xo_2 rfl rfl ?_
    refine xo_13r rfl cr_45_6 ?_
    refine xo_1 rfl rfl ?_
    refine xo_2 rfl rfl ?_
    refine xo_13r rfl cr_45_6 ?_
    refine xo_1 rfl rfl ?_
    refine xo_0 rfl ?_
    refine xo_7 rfl rfl ?_
    obtain ⟨hg2, H⟩ := H
    refine xo_17 rfl ca_56 hg2 ?_
    refine xo_2 rfl rfl ?_
    refine xo_13r rfl cr_45_5 ?_
    refine xo_1 rfl rfl ?_
    obtain ⟨hg3, H⟩ := H
    refine xo_17 rfl ca_55 hg3 ?_
    refine xo_10le rfl (am_sp ?_ ?_ H)
    · intro hc4 H
      refine xo_0 rfl ?_
      refine xo_12 rfl ?_
      refine xo_7 rfl rfl ?_
      obtain ⟨hg5, H⟩ := H
      refine xo_22 rfl ca_56 hg5 ?_
      refine xo_9 (z := (x2 + (-1))) (lv' := [some (.ref 45), some (.int x1), some (.int (x2 + (-1)))]) rfl rfl rfl rfl rfl ?_
      refine xo_12 rfl ?_
      exact H
    · intro hc4 H
      refine xo_0 rfl ?_
      refine xo_7 rfl rfl ?_
      obtain ⟨hg6, H⟩ := H
      refine xo_22 rfl ca_56 hg6 ?_
      refine xo_9 (z := (x2 + (-1))) (lv' := [some (.ref 45), some (.int x1), some (.int (x2 + (-1)))]) rfl rfl rfl rfl rfl ?_
      refine xo_12 rfl ?_
      exact H
theorem sm_90_64 {x1 : Int32} {x2 : Int32} (H : (if x2 < (h 3 2) then (am_ix x2 5 ∧ am_X L xs (d + 1) 90 64 [some (.ref 45), some (.int x1), some (.int (x2 + 1))] [] am_C0 (am_set h 58 x2.toNatClampNeg 0) o g Q T) else am_X L xs d 91 0 [some (.ref 45), some (.int 0), some (.int 0), none, none] [] am_C0 (am_set h 45 9 x1) o g (fun w h' o' g' => am_X L xs (d + 1) 90 99 [some (.ref 45), some (.int x1), some (.int x2)] (w.toList ++ []) am_C0 h' o' g' Q T) T)) : am_X L xs (d + 1) 90 64 [some (.ref 45), some (.int x1), some (.int x2)] [] am_C0 h o g Q T := by
  refine xo_1 rfl rfl ?_
  refine xo_2 rfl rfl ?_
  refine xo_13r rfl cr_45_3 ?_
  refine xo_13 rfl cf_3_2 ?_
  refine xo_11ge rfl (am_sp ?_ ?_ H)
  · intro hc1 H
    refine xo_2 rfl rfl ?_
    refine xo_13r rfl cr_45_8 ?_
    refine xo_1 rfl rfl ?_
    refine xo_0 rfl ?_
    obtain ⟨hg2, H⟩ := H
    refine xo_22 rfl ca_58 hg2 ?_
    refine xo_9 (z := (x2 + 1)) (lv' := [some (.ref 45), some (.int x1), some (.int (x2 + 1))]) rfl rfl rfl rfl rfl ?_
    refine xo_12 rfl ?_
    exact H
  · intro hc1 H
    refine xo_2 rfl rfl ?_
    refine xo_1 rfl rfl ?_
    refine xo_14 rfl cf_45_9 ?_
    refine xo_2 rfl rfl ?_
    refine xo_0 rfl ?_
    refine xo_0 rfl ?_
    refine cl_91_45 rfl hd_90 rfl ?_
    exact H
theorem sm_90_99 {q1 : Option Value} {q2 : Option Value} (hq1 : am_nl q1 = true) (hq2 : am_nl q2 = true) (H : Q (some (.int (h 45 9))) h o g) : am_X L xs d 90 99 [some (.ref 45), q1, q2] [] am_C0 h o g Q T := by
  refine xo_2 rfl rfl ?_
  refine xo_13 rfl cf_45_9 ?_
  refine xo_41 rfl ?_
  exact H
theorem sm_91 {x1 : Int32} {x2 : Int32} (H : (am_ix x1 6 ∧ (if (h 45 9) < (x2 + (h 56 x1.toNatClampNeg)) then (if x1 < (h 3 0) then am_X L xs d 91 54 [some (.ref 45), some (.int x1), some (.int x2), some (.int (1 <<< (x1 &&& 31))), some (.int 0)] [] am_C0 h o g Q T else Q none (am_cpy (am_set h 45 9 x2) 57 47 0 0 5) o g) else Q none h o g))) : am_X L xs d 91 0 [some (.ref 45), some (.int x1), some (.int x2), none, none] [] am_C0 h o g Q T := by
  refine xo_1 rfl rfl ?_
  refine xo_2 rfl rfl ?_
  refine xo_13r rfl cr_45_6 ?_
  refine xo_1 rfl rfl ?_
  obtain ⟨hg1, H⟩ := H
  refine xo_17 rfl ca_56 hg1 ?_
  refine xo_7 rfl rfl ?_
  refine xo_2 rfl rfl ?_
  refine xo_13 rfl cf_45_9 ?_
  refine xo_11gt rfl (am_sp ?_ ?_ H)
  · intro hc2 H
    refine xo_1 rfl rfl ?_
    refine xo_2 rfl rfl ?_
    refine xo_13r rfl cr_45_3 ?_
    refine xo_13 rfl cf_3_0 ?_
    refine xo_11lt rfl (am_sp ?_ ?_ H)
    · intro hc3 H
      refine xo_0 rfl ?_
      refine xo_1 rfl rfl ?_
      refine xo_7 rfl rfl ?_
      refine xo_4 (lv' := [some (.ref 45), some (.int x1), some (.int x2), some (.int (1 <<< (x1 &&& 31))), none]) rfl rfl rfl ?_
      refine xo_0 rfl ?_
      refine xo_4 (lv' := [some (.ref 45), some (.int x1), some (.int x2), some (.int (1 <<< (x1 &&& 31))), some (.int 0)]) rfl rfl rfl ?_
      exact H
    · intro hc3 H
      refine xo_2 rfl rfl ?_
      refine xo_1 rfl rfl ?_
      refine xo_14 rfl cf_45_9 ?_
      refine xo_2 rfl rfl ?_
      refine xo_13r rfl cr_45_7 ?_
      refine xo_0 rfl ?_
      refine xo_2 rfl rfl ?_
      refine xo_13r rfl cr_45_1 ?_
      refine xo_0 rfl ?_
      refine xo_0 rfl ?_
      refine xo_48 rfl ca_57 ca_47 (by decide) (Nat.le_of_ble_eq_true rfl) ?_
      refine xo_44 rfl ?_
      exact H
  · intro hc2 H
    refine xo_44 rfl ?_
    exact H
theorem sm_91_54 {x1 : Int32} {x2 : Int32} {x3 : Int32} {x4 : Int32} (H : (if x4 < (h 3 2) then (am_ix x1 5 ∧ am_X L xs d 89 0 [some (.ref 45), some (.int x4), some (.int x1), some (.int (h 46 x1.toNatClampNeg)), none, none] [] am_C0 h o g (fun w h' o' g' => am_X L xs (d + 1) 91 79 [some (.ref 45), some (.int x1), some (.int x2), some (.int x3), some (.int x4)] (w.toList ++ []) am_C0 h' o' g' Q T) T) else (am_ix x1 5 ∧ am_X L xs d 91 0 [some (.ref 45), some (.int (x1 + 1)), some (.int x2), none, none] [] am_C0 (am_set h 57 x1.toNatClampNeg (-1)) o g (fun w h' o' g' => am_X L xs (d + 1) 91 165 [some (.ref 45), some (.int x1), some (.int x2), some (.int x3), some (.int x4)] (w.toList ++ []) am_C0 h' o' g' Q T) T))) : am_X L xs (d + 1) 91 54 [some (.ref 45), some (.int x1), some (.int x2), some (.int x3), some (.int x4)] [] am_C0 h o g Q T := by
  refine xo_1 rfl rfl ?_
  refine xo_2 rfl rfl ?_
  refine xo_13r rfl cr_45_3 ?_
  refine xo_13 rfl cf_3_2 ?_
  refine xo_11ge rfl (am_sp ?_ ?_ H)
  · intro hc1 H
    refine xo_2 rfl rfl ?_
    refine xo_1 rfl rfl ?_
    refine xo_1 rfl rfl ?_
    refine xo_2 rfl rfl ?_
    refine xo_13r rfl cr_45_0 ?_
    refine xo_1 rfl rfl ?_
    obtain ⟨hg2, H⟩ := H
    refine xo_17 rfl ca_46 hg2 ?_
    refine cl_89_45 rfl hd_91 rfl ?_
    exact H
  · intro hc1 H
    refine xo_2 rfl rfl ?_
    refine xo_13r rfl cr_45_7 ?_
    refine xo_1 rfl rfl ?_
    refine xo_0 rfl ?_
    obtain ⟨hg3, H⟩ := H
    refine xo_22 rfl ca_57 hg3 ?_
    refine xo_2 rfl rfl ?_
    refine xo_1 rfl rfl ?_
    refine xo_0 rfl ?_
    refine xo_7 rfl rfl ?_
    refine xo_1 rfl rfl ?_
    refine cl_91_45 rfl hd_91 rfl ?_
    exact H
theorem sm_91_79 {x1 : Int32} {x2 : Int32} {x3 : Int32} {x4 : Int32} {z0 : Int32} (H : (if 0 < z0 then (am_ix x4 5 ∧ am_X L xs d 92 0 [some (.ref 45), some (.int x4), some (.int ((h 58 x4.toNatClampNeg) ||| x3)), some (.int 0), some (.long (Int64.ofNat 0)), none, none, none, none, none, none] [] am_C0 h o g (fun w h' o' g' => am_X L xs (d + 1) 91 99 [some (.ref 45), some (.int x1), some (.int x2), some (.int x3), some (.int x4)] (w.toList ++ []) am_C0 h' o' g' Q T) T) else am_X L xs (d + 1) 91 54 [some (.ref 45), some (.int x1), some (.int x2), some (.int x3), some (.int (x4 + 1))] [] am_C0 h o g Q T)) : am_X L xs (d + 1) 91 79 [some (.ref 45), some (.int x1), some (.int x2), some (.int x3), some (.int x4)] [.int z0] am_C0 h o g Q T := by
  refine xo_10le rfl (am_sp ?_ ?_ H)
  · intro hc1 H
    refine xo_2 rfl rfl ?_
    refine xo_1 rfl rfl ?_
    refine xo_2 rfl rfl ?_
    refine xo_13r rfl cr_45_8 ?_
    refine xo_1 rfl rfl ?_
    obtain ⟨hg2, H⟩ := H
    refine xo_17 rfl ca_58 hg2 ?_
    refine xo_1 rfl rfl ?_
    refine xo_7 rfl rfl ?_
    refine xo_0 rfl ?_
    refine xo_31 rfl ?_
    refine cl_92_45 rfl hd_91 rfl ?_
    exact H
  · intro hc1 H
    refine xo_9 (z := (x4 + 1)) (lv' := [some (.ref 45), some (.int x1), some (.int x2), some (.int x3), some (.int (x4 + 1))]) rfl rfl rfl rfl rfl ?_
    refine xo_12 rfl ?_
    exact H
theorem sm_91_165 {q0 : Option Value} {q1 : Option Value} {q2 : Option Value} {q3 : Option Value} {q4 : Option Value} (hq0 : am_nl q0 = true) (hq1 : am_nl q1 = true) (hq2 : am_nl q2 = true) (hq3 : am_nl q3 = true) (hq4 : am_nl q4 = true) (H : Q none h o g) : am_X L xs d 91 165 [q0, q1, q2, q3, q4] [] am_C0 h o g Q T := by
  refine xo_44 rfl ?_
  exact H
theorem sm_91_99 {x1 : Int32} {x2 : Int32} {x3 : Int32} {x4 : Int32} {z0 : Int32} (H : (if z0 = 0 then am_X L xs (d + 1) 91 54 [some (.ref 45), some (.int x1), some (.int x2), some (.int x3), some (.int (x4 + 1))] [] am_C0 h o g Q T else (am_ix x4 5 ∧ (am_ix x1 5 ∧ am_X L xs d 91 0 [some (.ref 45), some (.int (x1 + 1)), some (.int (x2 + 1)), none, none] [] am_C0 (am_set (am_set h 58 x4.toNatClampNeg ((h 58 x4.toNatClampNeg) ||| x3)) 57 x1.toNatClampNeg x4) o g (fun w h' o' g' => am_X L xs (d + 1) 91 131 [some (.ref 45), some (.int x1), some (.int x2), some (.int x3), some (.int x4)] (w.toList ++ []) am_C0 h' o' g' Q T) T)))) : am_X L xs (d + 1) 91 99 [some (.ref 45), some (.int x1), some (.int x2), some (.int x3), some (.int x4)] [.int z0] am_C0 h o g Q T := by
  refine xo_10eq rfl (am_sp ?_ ?_ H)
  · intro hc1 H
    refine xo_9 (z := (x4 + 1)) (lv' := [some (.ref 45), some (.int x1), some (.int x2), some (.int x3), some (.int (x4 + 1))]) rfl rfl rfl rfl rfl ?_
    refine xo_12 rfl ?_
    exact H
  · intro hc1 H
    refine xo_2 rfl rfl ?_
    refine xo_13r rfl cr_45_8 ?_
    refine xo_1 rfl rfl ?_
    refine xo_29 rfl ⟨rfl, rfl⟩ ?_
    obtain ⟨hg2, H⟩ := H
    refine xo_17 rfl ca_58 hg2 ?_
    refine xo_1 rfl rfl ?_
    refine xo_7 rfl rfl ?_
    refine xo_22 rfl ca_58 hg2 ?_
    refine xo_2 rfl rfl ?_
    refine xo_13r rfl cr_45_7 ?_
    refine xo_1 rfl rfl ?_
    refine xo_1 rfl rfl ?_
    obtain ⟨hg3, H⟩ := H
    refine xo_22 rfl ca_57 hg3 ?_
    refine xo_2 rfl rfl ?_
    refine xo_1 rfl rfl ?_
    refine xo_0 rfl ?_
    refine xo_7 rfl rfl ?_
    refine xo_1 rfl rfl ?_
    refine xo_0 rfl ?_
    refine xo_7 rfl rfl ?_
    refine cl_91_45 rfl hd_91 rfl ?_
    exact H
theorem sm_91_131 {x1 : Int32} {x2 : Int32} {x3 : Int32} {x4 : Int32} (H : (am_ix x4 5 ∧ am_X L xs d 91 54 [some (.ref 45), some (.int x1), some (.int x2), some (.int x3), some (.int (x4 + 1))] [] am_C0 (am_set h 58 x4.toNatClampNeg ((h 58 x4.toNatClampNeg) &&& (x3 ^^^ (-1)))) o g Q T)) : am_X L xs d 91 131 [some (.ref 45), some (.int x1), some (.int x2), some (.int x3), some (.int x4)] [] am_C0 h o g Q T := by
  refine xo_2 rfl rfl ?_
  refine xo_13r rfl cr_45_8 ?_
  refine xo_1 rfl rfl ?_
  refine xo_29 rfl ⟨rfl, rfl⟩ ?_
  obtain ⟨hg1, H⟩ := H
  refine xo_17 rfl ca_58 hg1 ?_
  refine xo_1 rfl rfl ?_
  refine xo_0 rfl ?_
  refine xo_7 rfl rfl ?_
  refine xo_7 rfl rfl ?_
  refine xo_22 rfl ca_58 hg1 ?_
  refine xo_9 (z := (x4 + 1)) (lv' := [some (.ref 45), some (.int x1), some (.int x2), some (.int x3), some (.int (x4 + 1))]) rfl rfl rfl rfl rfl ?_
  refine xo_12 rfl ?_
  exact H
theorem sm_92 {x1 : Int32} {x2 : Int32} {x3 : Int32} {y4 : Int64} (H : (if x3 < (h 3 0) then (if (x2 &&& (1 <<< (x3 &&& 31))) = 0 then am_X L xs d 92 0 [some (.ref 45), some (.int x1), some (.int x2), some (.int (x3 + 1)), some (.long y4), none, none, none, none, none, none] [] am_C0 h o g (fun w h' o' g' => am_X L xs (d + 1) 92 32 [some (.ref 45), some (.int x1), some (.int x2), some (.int x3), some (.long y4), none, none, none, none, none, none] (w.toList ++ []) am_C0 h' o' g' Q T) T else (am_ix x3 5 ∧ am_X L xs (d + 1) 92 61 [some (.ref 45), some (.int x1), some (.int x2), some (.int x3), some (.long y4), none, some (.long ((((Int64.ofNat 1) <<< ((h 7 x3.toNatClampNeg).toInt64 &&& 63)) - (Int64.ofNat 1)) <<< ((h 6 x3.toNatClampNeg).toInt64 &&& 63))), none, some (.int 0), none, none] [] am_C0 h o g Q T)) else Q (some (.int 1)) h o g)) : am_X L xs (d + 1) 92 0 [some (.ref 45), some (.int x1), some (.int x2), some (.int x3), some (.long y4), none, none, none, none, none, none] [] am_C0 h o g Q T := by
  refine xo_1 rfl rfl ?_
  refine xo_2 rfl rfl ?_
  refine xo_13r rfl cr_45_3 ?_
  refine xo_13 rfl cf_3_0 ?_
  refine xo_11lt rfl (am_sp ?_ ?_ H)
  · intro hc1 H
    refine xo_1 rfl rfl ?_
    refine xo_0 rfl ?_
    refine xo_1 rfl rfl ?_
    refine xo_7 rfl rfl ?_
    refine xo_7 rfl rfl ?_
    refine xo_10ne rfl (am_sp ?_ ?_ H)
    · intro hc2 H
      refine xo_2 rfl rfl ?_
      refine xo_1 rfl rfl ?_
      refine xo_1 rfl rfl ?_
      refine xo_1 rfl rfl ?_
      refine xo_0 rfl ?_
      refine xo_7 rfl rfl ?_
      refine xo_3 rfl rfl ?_
      refine cl_92_45 rfl hd_92 rfl ?_
      exact H
    · intro hc2 H
      refine xo_31 rfl ?_
      refine xo_2 rfl rfl ?_
      refine xo_13r rfl cr_45_3 ?_
      refine xo_13r rfl cr_3_6 ?_
      refine xo_1 rfl rfl ?_
      obtain ⟨hg3, H⟩ := H
      refine xo_17 rfl ca_7 hg3 ?_
      refine xo_33 rfl ?_
      refine xo_31 rfl ?_
      refine xo_8 rfl rfl ?_
      refine xo_2 rfl rfl ?_
      refine xo_13r rfl cr_45_3 ?_
      refine xo_13r rfl cr_3_5 ?_
      refine xo_1 rfl rfl ?_
      refine xo_17 rfl ca_6 hg3 ?_
      refine xo_33 rfl ?_
      refine xo_6 (lv' := [some (.ref 45), some (.int x1), some (.int x2), some (.int x3), some (.long y4), none, some (.long ((((Int64.ofNat 1) <<< ((h 7 x3.toNatClampNeg).toInt64 &&& 63)) - (Int64.ofNat 1)) <<< ((h 6 x3.toNatClampNeg).toInt64 &&& 63))), none, none, none, none]) rfl (Nat.le_of_ble_eq_true rfl) rfl ?_
      refine xo_0 rfl ?_
      refine xo_4 (lv' := [some (.ref 45), some (.int x1), some (.int x2), some (.int x3), some (.long y4), none, some (.long ((((Int64.ofNat 1) <<< ((h 7 x3.toNatClampNeg).toInt64 &&& 63)) - (Int64.ofNat 1)) <<< ((h 6 x3.toNatClampNeg).toInt64 &&& 63))), none, some (.int 0), none, none]) rfl rfl rfl ?_
      exact H
  · intro hc1 H
    refine xo_0 rfl ?_
    refine xo_42 rfl rfl ?_
    exact H
theorem sm_92_32 {q0 : Option Value} {q1 : Option Value} {q2 : Option Value} {q3 : Option Value} {q4 : Option Value} {q5 : Option Value} {q6 : Option Value} {q7 : Option Value} {q8 : Option Value} {q9 : Option Value} {q10 : Option Value} {z0 : Int32} (hq0 : am_nl q0 = true) (hq1 : am_nl q1 = true) (hq2 : am_nl q2 = true) (hq3 : am_nl q3 = true) (hq4 : am_nl q4 = true) (hq5 : am_nl q5 = true) (hq6 : am_nl q6 = true) (hq7 : am_nl q7 = true) (hq8 : am_nl q8 = true) (hq9 : am_nl q9 = true) (hq10 : am_nl q10 = true) (H : (am_bit z0 = true ∧ Q (some (.int z0)) h o g)) : am_X L xs d 92 32 [q0, q1, q2, q3, q4, q5, q6, q7, q8, q9, q10] [.int z0] am_C0 h o g Q T := by
  obtain ⟨hg1, H⟩ := H
  refine xo_42 rfl hg1 ?_
  exact H
theorem sm_92_61 {x1 : Int32} {x2 : Int32} {x3 : Int32} {y4 : Int64} {y6 : Int64} {x8 : Int32} {q9 : Option Value} {q10 : Option Value} (hq9 : am_nl q9 = true) (hq10 : am_nl q10 = true) (H : (if (h 12 2) < x8 then Q (some (.int 0)) h o g else (am_ix x3 5 ∧ (if x3 = 0 then (am_ix ((3 * x1) + x8) 15 ∧ (if (h 50 (((3 * x1) + x8).toNatClampNeg)) < (h 46 x3.toNatClampNeg) then am_X L xs (d + 1) 92 61 [some (.ref 45), some (.int x1), some (.int x2), some (.int x3), some (.long y4), none, some (.long y6), none, some (.int (x8 + 1)), some (.long (y6 <<< (x8.toInt64 &&& 63))), none] [] am_C0 h o g Q T else (if (lg_cmp ((y6 <<< (x8.toInt64 &&& 63)) &&& y4) (Int64.ofNat 0)) = 0 then am_X L xs d 92 0 [some (.ref 45), some (.int x1), some (.int x2), some (.int (x3 + 1)), some (.long (y4 ||| (y6 <<< (x8.toInt64 &&& 63)))), none, none, none, none, none, none] [] am_C0 (am_set h 48 x3.toNatClampNeg x8) o g (fun w h' o' g' => am_X L xs (d + 1) 92 136 [some (.ref 45), some (.int x1), some (.int x2), some (.int x3), some (.long y4), none, some (.long y6), none, some (.int x8), some (.long (y6 <<< (x8.toInt64 &&& 63))), none] (w.toList ++ []) am_C0 h' o' g' Q T) T else am_X L xs (d + 1) 92 61 [some (.ref 45), some (.int x1), some (.int x2), some (.int x3), some (.long y4), none, some (.long y6), none, some (.int (x8 + 1)), some (.long (y6 <<< (x8.toInt64 &&& 63))), none] [] am_C0 h o g Q T))) else (if x3 = 1 then (am_ix ((3 * x1) + x8) 15 ∧ (if (h 51 (((3 * x1) + x8).toNatClampNeg)) < (h 46 x3.toNatClampNeg) then am_X L xs (d + 1) 92 61 [some (.ref 45), some (.int x1), some (.int x2), some (.int x3), some (.long y4), none, some (.long y6), none, some (.int (x8 + 1)), some (.long (y6 <<< (x8.toInt64 &&& 63))), none] [] am_C0 h o g Q T else (if (lg_cmp ((y6 <<< (x8.toInt64 &&& 63)) &&& y4) (Int64.ofNat 0)) = 0 then am_X L xs d 92 0 [some (.ref 45), some (.int x1), some (.int x2), some (.int (x3 + 1)), some (.long (y4 ||| (y6 <<< (x8.toInt64 &&& 63)))), none, none, none, none, none, none] [] am_C0 (am_set h 48 x3.toNatClampNeg x8) o g (fun w h' o' g' => am_X L xs (d + 1) 92 136 [some (.ref 45), some (.int x1), some (.int x2), some (.int x3), some (.long y4), none, some (.long y6), none, some (.int x8), some (.long (y6 <<< (x8.toInt64 &&& 63))), none] (w.toList ++ []) am_C0 h' o' g' Q T) T else am_X L xs (d + 1) 92 61 [some (.ref 45), some (.int x1), some (.int x2), some (.int x3), some (.long y4), none, some (.long y6), none, some (.int (x8 + 1)), some (.long (y6 <<< (x8.toInt64 &&& 63))), none] [] am_C0 h o g Q T))) else (if x3 = 2 then (am_ix ((3 * x1) + x8) 15 ∧ (if (h 52 (((3 * x1) + x8).toNatClampNeg)) < (h 46 x3.toNatClampNeg) then am_X L xs (d + 1) 92 61 [some (.ref 45), some (.int x1), some (.int x2), some (.int x3), some (.long y4), none, some (.long y6), none, some (.int (x8 + 1)), some (.long (y6 <<< (x8.toInt64 &&& 63))), none] [] am_C0 h o g Q T else (if (lg_cmp ((y6 <<< (x8.toInt64 &&& 63)) &&& y4) (Int64.ofNat 0)) = 0 then am_X L xs d 92 0 [some (.ref 45), some (.int x1), some (.int x2), some (.int (x3 + 1)), some (.long (y4 ||| (y6 <<< (x8.toInt64 &&& 63)))), none, none, none, none, none, none] [] am_C0 (am_set h 48 x3.toNatClampNeg x8) o g (fun w h' o' g' => am_X L xs (d + 1) 92 136 [some (.ref 45), some (.int x1), some (.int x2), some (.int x3), some (.long y4), none, some (.long y6), none, some (.int x8), some (.long (y6 <<< (x8.toInt64 &&& 63))), none] (w.toList ++ []) am_C0 h' o' g' Q T) T else am_X L xs (d + 1) 92 61 [some (.ref 45), some (.int x1), some (.int x2), some (.int x3), some (.long y4), none, some (.long y6), none, some (.int (x8 + 1)), some (.long (y6 <<< (x8.toInt64 &&& 63))), none] [] am_C0 h o g Q T))) else (if x3 = 3 then (am_ix ((3 * x1) + x8) 15 ∧ (if (h 53 (((3 * x1) + x8).toNatClampNeg)) < (h 46 x3.toNatClampNeg) then am_X L xs (d + 1) 92 61 [some (.ref 45), some (.int x1), some (.int x2), some (.int x3), some (.long y4), none, some (.long y6), none, some (.int (x8 + 1)), some (.long (y6 <<< (x8.toInt64 &&& 63))), none] [] am_C0 h o g Q T else (if (lg_cmp ((y6 <<< (x8.toInt64 &&& 63)) &&& y4) (Int64.ofNat 0)) = 0 then am_X L xs d 92 0 [some (.ref 45), some (.int x1), some (.int x2), some (.int (x3 + 1)), some (.long (y4 ||| (y6 <<< (x8.toInt64 &&& 63)))), none, none, none, none, none, none] [] am_C0 (am_set h 48 x3.toNatClampNeg x8) o g (fun w h' o' g' => am_X L xs (d + 1) 92 136 [some (.ref 45), some (.int x1), some (.int x2), some (.int x3), some (.long y4), none, some (.long y6), none, some (.int x8), some (.long (y6 <<< (x8.toInt64 &&& 63))), none] (w.toList ++ []) am_C0 h' o' g' Q T) T else am_X L xs (d + 1) 92 61 [some (.ref 45), some (.int x1), some (.int x2), some (.int x3), some (.long y4), none, some (.long y6), none, some (.int (x8 + 1)), some (.long (y6 <<< (x8.toInt64 &&& 63))), none] [] am_C0 h o g Q T))) else (if x3 = 4 then (am_ix ((3 * x1) + x8) 15 ∧ (if (h 54 (((3 * x1) + x8).toNatClampNeg)) < (h 46 x3.toNatClampNeg) then am_X L xs (d + 1) 92 61 [some (.ref 45), some (.int x1), some (.int x2), some (.int x3), some (.long y4), none, some (.long y6), none, some (.int (x8 + 1)), some (.long (y6 <<< (x8.toInt64 &&& 63))), none] [] am_C0 h o g Q T else (if (lg_cmp ((y6 <<< (x8.toInt64 &&& 63)) &&& y4) (Int64.ofNat 0)) = 0 then am_X L xs d 92 0 [some (.ref 45), some (.int x1), some (.int x2), some (.int (x3 + 1)), some (.long (y4 ||| (y6 <<< (x8.toInt64 &&& 63)))), none, none, none, none, none, none] [] am_C0 (am_set h 48 x3.toNatClampNeg x8) o g (fun w h' o' g' => am_X L xs (d + 1) 92 136 [some (.ref 45), some (.int x1), some (.int x2), some (.int x3), some (.long y4), none, some (.long y6), none, some (.int x8), some (.long (y6 <<< (x8.toInt64 &&& 63))), none] (w.toList ++ []) am_C0 h' o' g' Q T) T else am_X L xs (d + 1) 92 61 [some (.ref 45), some (.int x1), some (.int x2), some (.int x3), some (.long y4), none, some (.long y6), none, some (.int (x8 + 1)), some (.long (y6 <<< (x8.toInt64 &&& 63))), none] [] am_C0 h o g Q T))) else False)))))))) : am_X L xs (d + 1) 92 61 [some (.ref 45), some (.int x1), some (.int x2), some (.int x3), some (.long y4), none, some (.long y6), none, some (.int x8), q9, q10] [] am_C0 h o g Q T := by
  refine xo_1 rfl rfl ?_
  refine xo_2 rfl rfl ?_
  refine xo_13r rfl cr_45_3 ?_
  refine xo_13r rfl cr_3_11 ?_
  refine xo_0 rfl ?_
  refine xo_17 rfl ca_12 (am_ix.lit rfl) ?_
  refine xo_11gt rfl (am_sp ?_ ?_ H)
  · intro hc1 H
    refine xo_0 rfl ?_
    refine xo_42 rfl rfl ?_
    exact H
  · intro hc1 H
    refine xo_3 rfl rfl ?_
    refine xo_1 rfl rfl ?_
    refine xo_33 rfl ?_
    refine xo_6 (lv' := [some (.ref 45), some (.int x1), some (.int x2), some (.int x3), some (.long y4), none, some (.long y6), none, some (.int x8), some (.long (y6 <<< (x8.toInt64 &&& 63))), none]) rfl (Nat.le_of_ble_eq_true rfl) rfl ?_
    refine xo_2 rfl rfl ?_
    refine xo_13r rfl cr_45_0 ?_
    refine xo_1 rfl rfl ?_
    obtain ⟨hg2, H⟩ := H
    refine xo_17 rfl ca_46 hg2 ?_
    refine xo_2 rfl rfl ?_
    refine xo_13r rfl cr_45_4 ?_
    refine xo_1 rfl rfl ?_
    by_cases hc3 : x3 = 0
    · rw [if_pos hc3] at H
      refine xo_20 (w := 50) rfl cb_49 (by rw [hc3]; exact am_ix.lit rfl) (by rw [hc3]; rfl) ?_
      refine xo_0 rfl ?_
      refine xo_1 rfl rfl ?_
      refine xo_7 rfl rfl ?_
      refine xo_1 rfl rfl ?_
      refine xo_7 rfl rfl ?_
      obtain ⟨hg4, H⟩ := H
      refine xo_17 rfl ca_50 hg4 ?_
      refine xo_11gt rfl (am_sp ?_ ?_ H)
      · intro hc5 H
        refine xo_9 (z := (x8 + 1)) (lv' := [some (.ref 45), some (.int x1), some (.int x2), some (.int x3), some (.long y4), none, some (.long y6), none, some (.int (x8 + 1)), some (.long (y6 <<< (x8.toInt64 &&& 63))), none]) rfl rfl rfl rfl rfl ?_
        refine xo_12 rfl ?_
        exact H
      · intro hc5 H
        refine xo_3 rfl rfl ?_
        refine xo_3 rfl rfl ?_
        refine xo_8 rfl rfl ?_
        refine xo_31 rfl ?_
        refine xo_34 rfl ?_
        refine xo_10ne rfl (am_sp ?_ ?_ H)
        · intro hc6 H
          refine xo_2 rfl rfl ?_
          refine xo_13r rfl cr_45_2 ?_
          refine xo_1 rfl rfl ?_
          refine xo_1 rfl rfl ?_
          refine xo_22 rfl ca_48 hg2 ?_
          refine xo_2 rfl rfl ?_
          refine xo_1 rfl rfl ?_
          refine xo_1 rfl rfl ?_
          refine xo_1 rfl rfl ?_
          refine xo_0 rfl ?_
          refine xo_7 rfl rfl ?_
          refine xo_3 rfl rfl ?_
          refine xo_3 rfl rfl ?_
          refine xo_8 rfl rfl ?_
          refine cl_92_45 rfl hd_92 rfl ?_
          exact H
        · intro hc6 H
          refine xo_9 (z := (x8 + 1)) (lv' := [some (.ref 45), some (.int x1), some (.int x2), some (.int x3), some (.long y4), none, some (.long y6), none, some (.int (x8 + 1)), some (.long (y6 <<< (x8.toInt64 &&& 63))), none]) rfl rfl rfl rfl rfl ?_
          refine xo_12 rfl ?_
          exact H
    · rw [if_neg hc3] at H
      by_cases hc7 : x3 = 1
      · rw [if_pos hc7] at H
        refine xo_20 (w := 51) rfl cb_49 (by rw [hc7]; exact am_ix.lit rfl) (by rw [hc7]; rfl) ?_
        refine xo_0 rfl ?_
        refine xo_1 rfl rfl ?_
        refine xo_7 rfl rfl ?_
        refine xo_1 rfl rfl ?_
        refine xo_7 rfl rfl ?_
        obtain ⟨hg8, H⟩ := H
        refine xo_17 rfl ca_51 hg8 ?_
        refine xo_11gt rfl (am_sp ?_ ?_ H)
        · intro hc9 H
          refine xo_9 (z := (x8 + 1)) (lv' := [some (.ref 45), some (.int x1), some (.int x2), some (.int x3), some (.long y4), none, some (.long y6), none, some (.int (x8 + 1)), some (.long (y6 <<< (x8.toInt64 &&& 63))), none]) rfl rfl rfl rfl rfl ?_
          refine xo_12 rfl ?_
          exact H
        · intro hc9 H
          refine xo_3 rfl rfl ?_
          refine xo_3 rfl rfl ?_
          refine xo_8 rfl rfl ?_
          refine xo_31 rfl ?_
          refine xo_34 rfl ?_
          refine xo_10ne rfl (am_sp ?_ ?_ H)
          · intro hc10 H
            refine xo_2 rfl rfl ?_
            refine xo_13r rfl cr_45_2 ?_
            refine xo_1 rfl rfl ?_
            refine xo_1 rfl rfl ?_
            refine xo_22 rfl ca_48 hg2 ?_
            refine xo_2 rfl rfl ?_
            refine xo_1 rfl rfl ?_
            refine xo_1 rfl rfl ?_
            refine xo_1 rfl rfl ?_
            refine xo_0 rfl ?_
            refine xo_7 rfl rfl ?_
            refine xo_3 rfl rfl ?_
            refine xo_3 rfl rfl ?_
            refine xo_8 rfl rfl ?_
            refine cl_92_45 rfl hd_92 rfl ?_
            exact H
          · intro hc10 H
            refine xo_9 (z := (x8 + 1)) (lv' := [some (.ref 45), some (.int x1), some (.int x2), some (.int x3), some (.long y4), none, some (.long y6), none, some (.int (x8 + 1)), some (.long (y6 <<< (x8.toInt64 &&& 63))), none]) rfl rfl rfl rfl rfl ?_
            refine xo_12 rfl ?_
            exact H
      · rw [if_neg hc7] at H
        by_cases hc11 : x3 = 2
        · rw [if_pos hc11] at H
          refine xo_20 (w := 52) rfl cb_49 (by rw [hc11]; exact am_ix.lit rfl) (by rw [hc11]; rfl) ?_
          refine xo_0 rfl ?_
          refine xo_1 rfl rfl ?_
          refine xo_7 rfl rfl ?_
          refine xo_1 rfl rfl ?_
          refine xo_7 rfl rfl ?_
          obtain ⟨hg12, H⟩ := H
          refine xo_17 rfl ca_52 hg12 ?_
          refine xo_11gt rfl (am_sp ?_ ?_ H)
          · intro hc13 H
            refine xo_9 (z := (x8 + 1)) (lv' := [some (.ref 45), some (.int x1), some (.int x2), some (.int x3), some (.long y4), none, some (.long y6), none, some (.int (x8 + 1)), some (.long (y6 <<< (x8.toInt64 &&& 63))), none]) rfl rfl rfl rfl rfl ?_
            refine xo_12 rfl ?_
            exact H
          · intro hc13 H
            refine xo_3 rfl rfl ?_
            refine xo_3 rfl rfl ?_
            refine xo_8 rfl rfl ?_
            refine xo_31 rfl ?_
            refine xo_34 rfl ?_
            refine xo_10ne rfl (am_sp ?_ ?_ H)
            · intro hc14 H
              refine xo_2 rfl rfl ?_
              refine xo_13r rfl cr_45_2 ?_
              refine xo_1 rfl rfl ?_
              refine xo_1 rfl rfl ?_
              refine xo_22 rfl ca_48 hg2 ?_
              refine xo_2 rfl rfl ?_
              refine xo_1 rfl rfl ?_
              refine xo_1 rfl rfl ?_
              refine xo_1 rfl rfl ?_
              refine xo_0 rfl ?_
              refine xo_7 rfl rfl ?_
              refine xo_3 rfl rfl ?_
              refine xo_3 rfl rfl ?_
              refine xo_8 rfl rfl ?_
              refine cl_92_45 rfl hd_92 rfl ?_
              exact H
            · intro hc14 H
              refine xo_9 (z := (x8 + 1)) (lv' := [some (.ref 45), some (.int x1), some (.int x2), some (.int x3), some (.long y4), none, some (.long y6), none, some (.int (x8 + 1)), some (.long (y6 <<< (x8.toInt64 &&& 63))), none]) rfl rfl rfl rfl rfl ?_
              refine xo_12 rfl ?_
              exact H
        · rw [if_neg hc11] at H
          by_cases hc15 : x3 = 3
          · rw [if_pos hc15] at H
            refine xo_20 (w := 53) rfl cb_49 (by rw [hc15]; exact am_ix.lit rfl) (by rw [hc15]; rfl) ?_
            refine xo_0 rfl ?_
            refine xo_1 rfl rfl ?_
            refine xo_7 rfl rfl ?_
            refine xo_1 rfl rfl ?_
            refine xo_7 rfl rfl ?_
            obtain ⟨hg16, H⟩ := H
            refine xo_17 rfl ca_53 hg16 ?_
            refine xo_11gt rfl (am_sp ?_ ?_ H)
            · intro hc17 H
              refine xo_9 (z := (x8 + 1)) (lv' := [some (.ref 45), some (.int x1), some (.int x2), some (.int x3), some (.long y4), none, some (.long y6), none, some (.int (x8 + 1)), some (.long (y6 <<< (x8.toInt64 &&& 63))), none]) rfl rfl rfl rfl rfl ?_
              refine xo_12 rfl ?_
              exact H
            · intro hc17 H
              refine xo_3 rfl rfl ?_
              refine xo_3 rfl rfl ?_
              refine xo_8 rfl rfl ?_
              refine xo_31 rfl ?_
              refine xo_34 rfl ?_
              refine xo_10ne rfl (am_sp ?_ ?_ H)
              · intro hc18 H
                refine xo_2 rfl rfl ?_
                refine xo_13r rfl cr_45_2 ?_
                refine xo_1 rfl rfl ?_
                refine xo_1 rfl rfl ?_
                refine xo_22 rfl ca_48 hg2 ?_
                refine xo_2 rfl rfl ?_
                refine xo_1 rfl rfl ?_
                refine xo_1 rfl rfl ?_
                refine xo_1 rfl rfl ?_
                refine xo_0 rfl ?_
                refine xo_7 rfl rfl ?_
                refine xo_3 rfl rfl ?_
                refine xo_3 rfl rfl ?_
                refine xo_8 rfl rfl ?_
                refine cl_92_45 rfl hd_92 rfl ?_
                exact H
              · intro hc18 H
                refine xo_9 (z := (x8 + 1)) (lv' := [some (.ref 45), some (.int x1), some (.int x2), some (.int x3), some (.long y4), none, some (.long y6), none, some (.int (x8 + 1)), some (.long (y6 <<< (x8.toInt64 &&& 63))), none]) rfl rfl rfl rfl rfl ?_
                refine xo_12 rfl ?_
                exact H
          · rw [if_neg hc15] at H
            by_cases hc19 : x3 = 4
            · rw [if_pos hc19] at H
              refine xo_20 (w := 54) rfl cb_49 (by rw [hc19]; exact am_ix.lit rfl) (by rw [hc19]; rfl) ?_
              refine xo_0 rfl ?_
              refine xo_1 rfl rfl ?_
              refine xo_7 rfl rfl ?_
              refine xo_1 rfl rfl ?_
              refine xo_7 rfl rfl ?_
              obtain ⟨hg20, H⟩ := H
              refine xo_17 rfl ca_54 hg20 ?_
              refine xo_11gt rfl (am_sp ?_ ?_ H)
              · intro hc21 H
                refine xo_9 (z := (x8 + 1)) (lv' := [some (.ref 45), some (.int x1), some (.int x2), some (.int x3), some (.long y4), none, some (.long y6), none, some (.int (x8 + 1)), some (.long (y6 <<< (x8.toInt64 &&& 63))), none]) rfl rfl rfl rfl rfl ?_
                refine xo_12 rfl ?_
                exact H
              · intro hc21 H
                refine xo_3 rfl rfl ?_
                refine xo_3 rfl rfl ?_
                refine xo_8 rfl rfl ?_
                refine xo_31 rfl ?_
                refine xo_34 rfl ?_
                refine xo_10ne rfl (am_sp ?_ ?_ H)
                · intro hc22 H
                  refine xo_2 rfl rfl ?_
                  refine xo_13r rfl cr_45_2 ?_
                  refine xo_1 rfl rfl ?_
                  refine xo_1 rfl rfl ?_
                  refine xo_22 rfl ca_48 hg2 ?_
                  refine xo_2 rfl rfl ?_
                  refine xo_1 rfl rfl ?_
                  refine xo_1 rfl rfl ?_
                  refine xo_1 rfl rfl ?_
                  refine xo_0 rfl ?_
                  refine xo_7 rfl rfl ?_
                  refine xo_3 rfl rfl ?_
                  refine xo_3 rfl rfl ?_
                  refine xo_8 rfl rfl ?_
                  refine cl_92_45 rfl hd_92 rfl ?_
                  exact H
                · intro hc22 H
                  refine xo_9 (z := (x8 + 1)) (lv' := [some (.ref 45), some (.int x1), some (.int x2), some (.int x3), some (.long y4), none, some (.long y6), none, some (.int (x8 + 1)), some (.long (y6 <<< (x8.toInt64 &&& 63))), none]) rfl rfl rfl rfl rfl ?_
                  refine xo_12 rfl ?_
                  exact H
            · rw [if_neg hc19] at H
              exact absurd H id
theorem sm_92_136 {x1 : Int32} {x2 : Int32} {x3 : Int32} {y4 : Int64} {y6 : Int64} {x8 : Int32} {q9 : Option Value} {q10 : Option Value} {z0 : Int32} (hq9 : am_nl q9 = true) (hq10 : am_nl q10 = true) (H : (if z0 = 0 then am_X L xs d 92 61 [some (.ref 45), some (.int x1), some (.int x2), some (.int x3), some (.long y4), none, some (.long y6), none, some (.int (x8 + 1)), q9, q10] [] am_C0 h o g Q T else Q (some (.int 1)) h o g)) : am_X L xs d 92 136 [some (.ref 45), some (.int x1), some (.int x2), some (.int x3), some (.long y4), none, some (.long y6), none, some (.int x8), q9, q10] [.int z0] am_C0 h o g Q T := by
  refine xo_10eq rfl (am_sp ?_ ?_ H)
  · intro hc1 H
    refine xo_9 (z := (x8 + 1)) (lv' := [some (.ref 45), some (.int x1), some (.int x2), some (.int x3), some (.long y4), none, some (.long y6), none, some (.int (x8 + 1)), q9, q10]) rfl rfl rfl rfl rfl ?_
    refine xo_12 rfl ?_
    exact H
  · intro hc1 H
    refine xo_0 rfl ?_
    refine xo_42 rfl rfl ?_
    exact H
theorem sm_93 (H : am_X L xs d 93 2 [some (.ref 45), some (.int 0), none, none] [] am_C0 h o g Q T) : am_X L xs d 93 0 [some (.ref 45), none, none, none] [] am_C0 h o g Q T := by
  refine xo_0 rfl ?_
  refine xo_4 (lv' := [some (.ref 45), some (.int 0), none, none]) rfl rfl rfl ?_
  exact H
theorem sm_93_2 {x1 : Int32} {q2 : Option Value} {q3 : Option Value} (hq2 : am_nl q2 = true) (hq3 : am_nl q3 = true) (H : (if x1 < (h 3 2) then am_X L xs d 93 17 [some (.ref 45), some (.int x1), some (.int 0), some (.int 0)] [] am_C0 h o g Q T else Q none h o g)) : am_X L xs d 93 2 [some (.ref 45), some (.int x1), q2, q3] [] am_C0 h o g Q T := by
  refine xo_1 rfl rfl ?_
  refine xo_2 rfl rfl ?_
  refine xo_13r rfl cr_45_3 ?_
  refine xo_13 rfl cf_3_2 ?_
  refine xo_11ge rfl (am_sp ?_ ?_ H)
  · intro hc1 H
    refine xo_0 rfl ?_
    refine xo_4 (lv' := [some (.ref 45), some (.int x1), some (.int 0), q3]) rfl rfl rfl ?_
    refine xo_0 rfl ?_
    refine xo_4 (lv' := [some (.ref 45), some (.int x1), some (.int 0), some (.int 0)]) rfl rfl rfl ?_
    exact H
  · intro hc1 H
    refine xo_44 rfl ?_
    exact H
theorem sm_93_17 {x1 : Int32} {x2 : Int32} {x3 : Int32} (H : (if x3 < (h 3 0) then (am_ix x3 5 ∧ (if (h 47 x3.toNatClampNeg) = x1 then am_X L xs (d + 1) 93 17 [some (.ref 45), some (.int x1), some (.int (x2 ||| (1 <<< (x3 &&& 31)))), some (.int (x3 + 1))] [] am_C0 h o g Q T else am_X L xs (d + 1) 93 17 [some (.ref 45), some (.int x1), some (.int x2), some (.int (x3 + 1))] [] am_C0 h o g Q T)) else am_X L xs d 92 0 [some (.ref 45), some (.int x1), some (.int x2), some (.int 0), some (.long (Int64.ofNat 0)), none, none, none, none, none, none] [] am_C0 h o g (fun w h' o' g' => am_X L xs (d + 1) 93 58 [some (.ref 45), some (.int x1), some (.int x2), some (.int x3)] (w.toList ++ []) am_C0 h' o' g' Q T) T)) : am_X L xs (d + 1) 93 17 [some (.ref 45), some (.int x1), some (.int x2), some (.int x3)] [] am_C0 h o g Q T := by
  refine xo_1 rfl rfl ?_
  refine xo_2 rfl rfl ?_
  refine xo_13r rfl cr_45_3 ?_
  refine xo_13 rfl cf_3_0 ?_
  refine xo_11ge rfl (am_sp ?_ ?_ H)
  · intro hc1 H
    refine xo_2 rfl rfl ?_
    refine xo_13r rfl cr_45_1 ?_
    refine xo_1 rfl rfl ?_
    obtain ⟨hg2, H⟩ := H
    refine xo_17 rfl ca_47 hg2 ?_
    refine xo_1 rfl rfl ?_
    refine xo_11ne rfl (am_sp ?_ ?_ H)
    · intro hc3 H
      refine xo_1 rfl rfl ?_
      refine xo_0 rfl ?_
      refine xo_1 rfl rfl ?_
      refine xo_7 rfl rfl ?_
      refine xo_7 rfl rfl ?_
      refine xo_4 (lv' := [some (.ref 45), some (.int x1), some (.int (x2 ||| (1 <<< (x3 &&& 31)))), some (.int x3)]) rfl rfl rfl ?_
      refine xo_9 (z := (x3 + 1)) (lv' := [some (.ref 45), some (.int x1), some (.int (x2 ||| (1 <<< (x3 &&& 31)))), some (.int (x3 + 1))]) rfl rfl rfl rfl rfl ?_
      refine xo_12 rfl ?_
      exact H
    · intro hc3 H
      refine xo_9 (z := (x3 + 1)) (lv' := [some (.ref 45), some (.int x1), some (.int x2), some (.int (x3 + 1))]) rfl rfl rfl rfl rfl ?_
      refine xo_12 rfl ?_
      exact H
  · intro hc1 H
    refine xo_2 rfl rfl ?_
    refine xo_1 rfl rfl ?_
    refine xo_1 rfl rfl ?_
    refine xo_0 rfl ?_
    refine xo_31 rfl ?_
    refine cl_92_45 rfl hd_93 rfl ?_
    exact H
theorem sm_93_58 {x1 : Int32} {q2 : Option Value} {q3 : Option Value} {z0 : Int32} (hq2 : am_nl q2 = true) (hq3 : am_nl q3 = true) (H : am_X L xs d 93 2 [some (.ref 45), some (.int (x1 + 1)), q2, q3] [] am_C0 h o g Q T) : am_X L xs d 93 58 [some (.ref 45), some (.int x1), q2, q3] [.int z0] am_C0 h o g Q T := by
  refine xo_30 rfl rfl ?_
  refine xo_9 (z := (x1 + 1)) (lv' := [some (.ref 45), some (.int (x1 + 1)), q2, q3]) rfl rfl rfl rfl rfl ?_
  refine xo_12 rfl ?_
  exact H
theorem wr_94 {x1 : Int32} {x2 : Int32} (H : am_X L xs d 95 0 [some (.ref 0), some (.int x1), some (.int x2)] [] am_C0 h o g (fun w h' o' g' => ∃ y, w = some (.int y) ∧ Q (some (.int 0)) h' (am_setL o' 108 0 y.toInt64) g') (fun E h' o' g' => if E = 0 then Q (some (.int 1)) h' o' g' else T E h' o' g')) : am_X L xs (d + 1) 94 0 [some (.ref 0), some (.int x1), some (.int x2), some (.ref 108), none] [] am_C0 h o g Q T := by
  refine xo_2 rfl rfl ?_
  refine xo_0 rfl ?_
  refine xo_2 rfl rfl ?_
  refine xo_1 rfl rfl ?_
  refine xo_1 rfl rfl ?_
  refine ch_95 rfl rfl (am_X.mono H ?_ ?_)
  · rintro w h o g ⟨y, rfl, H⟩
    show am_X L xs (d + 1) 94 8 [some (.ref 0), some (.int x1), some (.int x2), some (.ref 108), none] [.int y, .int 0, .ref 108] am_C0 h o g Q T
    refine xo_32 rfl ?_
    refine xo_26 rfl ca_108 (am_ix.lit rfl) ?_
    refine xo_12 rfl ?_
    refine xo_0 rfl ?_
    refine xo_41 rfl ?_
    exact H
  · intro E h o g H
    by_cases hE0 : E = 0
    · rw [if_pos hE0] at H
      subst hE0
      show am_X L xs (d + 1) 94 15 [some (.ref 0), some (.int x1), some (.int x2), some (.ref 108), none] [] am_C0 h o g Q T
      refine xo_0 rfl ?_
      refine xo_41 rfl ?_
      exact H
    · rw [if_neg hE0] at H
      have e : am_hand (am_hd 94) 5 E = none := by
        show am_hand [(0, 10, 0, 15, 4)] 5 E = none
        simp only [am_hand]
        rw [if_neg (fun q => hE0 q.2.2.symm)]
      show (match am_hand (am_hd 94) 5 E with | none => T E h o g | some (pc', j) => am_X L xs (d + 1) 94 pc' (am_st1 [some (.ref 0), some (.int x1), some (.int x2), some (.ref 108), none] j none) [] am_C0 h o g Q T)
      rw [e]
      exact H
theorem sm_95 {x1 : Int32} {x2 : Int32} (H : (if x1 < 0 then T 0 h o (g + 1) else (if x1 < (h 3 0) then (if x2 < 0 then T 0 h o (g + 1) else (if 1 < x2 then T 0 h o (g + 1) else (if (h 0 11) = 0 then T 0 h o (g + 1) else (if x2 = 0 then (am_ix x1 5 ∧ Q (some (.int (h 62 x1.toNatClampNeg))) h o g) else (am_ix x1 5 ∧ Q (some (.int (h 63 x1.toNatClampNeg))) h o g))))) else T 0 h o (g + 1)))) : am_X L xs (d + 1) 95 0 [some (.ref 0), some (.int x1), some (.int x2)] [] am_C0 h o g Q T := by
  refine xo_2 rfl rfl ?_
  refine xo_1 rfl rfl ?_
  refine cl_45_0 rfl hd_95 rfl ?_
  refine xo_1 rfl rfl ?_
  refine xo_10lt rfl (am_sp ?_ ?_ H)
  · intro hc1 H
    refine xo_45 rfl (Nat.le_of_ble_eq_true rfl) ?_
    exact H
  · intro hc1 H
    refine xo_1 rfl rfl ?_
    refine xo_2 rfl rfl ?_
    refine xo_13r rfl cr_0_1 ?_
    refine xo_13 rfl cf_3_0 ?_
    refine xo_11lt rfl (am_sp ?_ ?_ H)
    · intro hc2 H
      refine xr_44 rfl ?_
      refine xo_2 rfl rfl ?_
      refine xo_1 rfl rfl ?_
      refine xo_0 rfl ?_
      refine cl_51_0 rfl hd_95 rfl ?_
      refine xo_1 rfl rfl ?_
      refine xo_10lt rfl (am_sp ?_ ?_ H)
      · intro hc3 H
        refine xo_45 rfl (Nat.le_of_ble_eq_true rfl) ?_
        exact H
      · intro hc3 H
        refine xo_1 rfl rfl ?_
        refine xo_1 rfl rfl ?_
        refine xo_11le rfl (am_sp ?_ ?_ H)
        · intro hc4 H
          refine xo_45 rfl (Nat.le_of_ble_eq_true rfl) ?_
          exact H
        · intro hc4 H
          refine xr_44 rfl ?_
          refine xo_2 rfl rfl ?_
          refine xo_13 rfl cf_0_11 ?_
          refine xo_10ne rfl (am_sp ?_ ?_ H)
          · intro hc5 H
            refine xo_45 rfl (Nat.le_of_ble_eq_true rfl) ?_
            exact H
          · intro hc5 H
            refine xo_1 rfl rfl ?_
            refine xo_10ne rfl (am_sp ?_ ?_ H)
            · intro hc6 H
              refine xo_2 rfl rfl ?_
              refine xo_13r rfl cr_0_9 ?_
              refine xo_1 rfl rfl ?_
              obtain ⟨hg7, H⟩ := H
              refine xo_17 rfl ca_62 hg7 ?_
              refine xo_12 rfl ?_
              refine xo_41 rfl ?_
              exact H
            · intro hc6 H
              refine xo_2 rfl rfl ?_
              refine xo_13r rfl cr_0_10 ?_
              refine xo_1 rfl rfl ?_
              obtain ⟨hg8, H⟩ := H
              refine xo_17 rfl ca_63 hg8 ?_
              refine xo_41 rfl ?_
              exact H
    · intro hc2 H
      refine xo_45 rfl (Nat.le_of_ble_eq_true rfl) ?_
      exact H
theorem wr_96 {x1 : Int32} {x2 : Int32} {x3 : Int32} {x4 : Int32} (H : am_X L xs d 97 0 [some (.ref 0), some (.int x1), some (.int x2), some (.int x3), some (.int x4), none, none, none] [] am_C0 h o g (fun w h' o' g' => ∃ y, w = some (.int y) ∧ Q (some (.int 0)) h' (am_setL o' 108 0 y.toInt64) g') (fun E h' o' g' => if E = 0 then Q (some (.int 1)) h' o' g' else if E = 1 then Q (some (.int 2)) h' o' g' else T E h' o' g')) : am_X L xs (d + 1) 96 0 [some (.ref 0), some (.int x1), some (.int x2), some (.int x3), some (.int x4), some (.ref 108), none] [] am_C0 h o g Q T := by
  refine xo_2 rfl rfl ?_
  refine xo_0 rfl ?_
  refine xo_2 rfl rfl ?_
  refine xo_1 rfl rfl ?_
  refine xo_1 rfl rfl ?_
  refine xo_1 rfl rfl ?_
  refine xo_1 rfl rfl ?_
  refine ch_97 rfl rfl (am_X.mono H ?_ ?_)
  · rintro w h o g ⟨y, rfl, H⟩
    show am_X L xs (d + 1) 96 12 [some (.ref 0), some (.int x1), some (.int x2), some (.int x3), some (.int x4), some (.ref 108), none] [.int y, .int 0, .ref 108] am_C0 h o g Q T
    refine xo_32 rfl ?_
    refine xo_26 rfl ca_108 (am_ix.lit rfl) ?_
    refine xo_12 rfl ?_
    refine xo_0 rfl ?_
    refine xo_41 rfl ?_
    exact H
  · intro E h o g H
    by_cases hE0 : E = 0
    · rw [if_pos hE0] at H
      subst hE0
      show am_X L xs (d + 1) 96 19 [some (.ref 0), some (.int x1), some (.int x2), some (.int x3), some (.int x4), some (.ref 108), none] [] am_C0 h o g Q T
      refine xo_0 rfl ?_
      refine xo_41 rfl ?_
      exact H
    · rw [if_neg hE0] at H
      by_cases hE1 : E = 1
      · rw [if_pos hE1] at H
        subst hE1
        show am_X L xs (d + 1) 96 23 [some (.ref 0), some (.int x1), some (.int x2), some (.int x3), some (.int x4), some (.ref 108), none] [] am_C0 h o g Q T
        refine xo_0 rfl ?_
        refine xo_41 rfl ?_
        exact H
      · rw [if_neg hE1] at H
        have e : am_hand (am_hd 96) 9 E = none := by
          show am_hand [(0, 14, 0, 19, 6), (0, 14, 1, 23, 6)] 9 E = none
          simp only [am_hand]
          rw [if_neg (fun q => hE0 q.2.2.symm)]
          rw [if_neg (fun q => hE1 q.2.2.symm)]
        show (match am_hand (am_hd 96) 9 E with | none => T E h o g | some (pc', j) => am_X L xs (d + 1) 96 pc' (am_st1 [some (.ref 0), some (.int x1), some (.int x2), some (.int x3), some (.int x4), some (.ref 108), none] j none) [] am_C0 h o g Q T)
        rw [e]
        exact H
theorem sm_97 {x1 : Int32} {x2 : Int32} {x3 : Int32} {x4 : Int32} (H : (if x1 < 0 then T 0 h o (g + 1) else (if x1 < (h 3 1) then (if x2 < 0 then T 0 h o (g + 1) else (if x2 < (h 3 0) then (if x4 < 0 then T 0 h o (g + 1) else (if 1 < x4 then T 0 h o (g + 1) else (if x3 < 1 then T 1 h o (g + 1) else (if 60 < x3 then T 1 h o (g + 1) else am_X L xs (d + 1) 99 0 [some (.ref 0), some (.int x1), some (.int x2)] [] am_C0 h o g (fun w h' o' g' => am_X L xs (d + 2) 97 28 [some (.ref 0), some (.int x1), some (.int x2), some (.int x3), some (.int x4), none, none, none] (w.toList ++ []) am_C0 h' o' g' Q T) T)))) else T 0 h o (g + 1))) else T 0 h o (g + 1)))) : am_X L xs (d + 2) 97 0 [some (.ref 0), some (.int x1), some (.int x2), some (.int x3), some (.int x4), none, none, none] [] am_C0 h o g Q T := by
  refine xo_2 rfl rfl ?_
  refine xo_1 rfl rfl ?_
  refine cl_50_0 rfl hd_97 rfl ?_
  refine xo_1 rfl rfl ?_
  refine xo_10lt rfl (am_sp ?_ ?_ H)
  · intro hc1 H
    refine xo_45 rfl (Nat.le_of_ble_eq_true rfl) ?_
    exact H
  · intro hc1 H
    refine xo_1 rfl rfl ?_
    refine xo_2 rfl rfl ?_
    refine xo_13r rfl cr_0_1 ?_
    refine xo_13 rfl cf_3_1 ?_
    refine xo_11lt rfl (am_sp ?_ ?_ H)
    · intro hc2 H
      refine xr_44 rfl ?_
      refine xo_2 rfl rfl ?_
      refine xo_1 rfl rfl ?_
      refine cl_45_0 rfl hd_97 rfl ?_
      refine xo_1 rfl rfl ?_
      refine xo_10lt rfl (am_sp ?_ ?_ H)
      · intro hc3 H
        refine xo_45 rfl (Nat.le_of_ble_eq_true rfl) ?_
        exact H
      · intro hc3 H
        refine xo_1 rfl rfl ?_
        refine xo_2 rfl rfl ?_
        refine xo_13r rfl cr_0_1 ?_
        refine xo_13 rfl cf_3_0 ?_
        refine xo_11lt rfl (am_sp ?_ ?_ H)
        · intro hc4 H
          refine xr_44 rfl ?_
          refine xo_2 rfl rfl ?_
          refine xo_1 rfl rfl ?_
          refine xo_0 rfl ?_
          refine cl_51_0 rfl hd_97 rfl ?_
          refine xo_1 rfl rfl ?_
          refine xo_10lt rfl (am_sp ?_ ?_ H)
          · intro hc5 H
            refine xo_45 rfl (Nat.le_of_ble_eq_true rfl) ?_
            exact H
          · intro hc5 H
            refine xo_1 rfl rfl ?_
            refine xo_1 rfl rfl ?_
            refine xo_11le rfl (am_sp ?_ ?_ H)
            · intro hc6 H
              refine xo_45 rfl (Nat.le_of_ble_eq_true rfl) ?_
              exact H
            · intro hc6 H
              refine xr_44 rfl ?_
              refine xo_2 rfl rfl ?_
              refine xo_1 rfl rfl ?_
              refine cl_98_0 rfl hd_97 rfl ?_
              refine xo_1 rfl rfl ?_
              refine cl_67 rfl hd_98 rfl ?_
              refine xo_1 rfl rfl ?_
              refine xo_0 rfl ?_
              refine xo_11lt rfl (am_sp ?_ ?_ H)
              · intro hc7 H
                refine xo_0 rfl ?_
                refine xr_42 rfl rfl ?_
                refine xo_10n rfl (by decide) ?_
                refine xo_45 rfl (Nat.le_of_ble_eq_true rfl) ?_
                exact H
              · intro hc7 H
                refine xo_1 rfl rfl ?_
                refine xo_0 rfl ?_
                refine xo_11gt rfl (am_sp ?_ ?_ H)
                · intro hc8 H
                  refine xo_0 rfl ?_
                  refine xr_42 rfl rfl ?_
                  refine xo_10n rfl (by decide) ?_
                  refine xo_45 rfl (Nat.le_of_ble_eq_true rfl) ?_
                  exact H
                · intro hc8 H
                  refine xo_0 rfl ?_
                  refine xo_12 rfl ?_
                  refine xr_42 rfl rfl ?_
                  refine xo_10 rfl (by decide) ?_
                  refine xr_44 rfl ?_
                  refine xo_2 rfl rfl ?_
                  refine xo_1 rfl rfl ?_
                  refine xo_1 rfl rfl ?_
                  refine cl_99_0 rfl hd_97 rfl ?_
                  exact H
        · intro hc4 H
          refine xo_45 rfl (Nat.le_of_ble_eq_true rfl) ?_
          exact H
    · intro hc2 H
      refine xo_45 rfl (Nat.le_of_ble_eq_true rfl) ?_
      exact H
theorem sm_97_28 {q1 : Option Value} {q2 : Option Value} {x3 : Int32} {x4 : Int32} {q5 : Option Value} {q6 : Option Value} {q7 : Option Value} (hq1 : am_nl q1 = true) (hq2 : am_nl q2 = true) (hq5 : am_nl q5 = true) (hq6 : am_nl q6 = true) (hq7 : am_nl q7 = true) (H : am_X L xs (d + 1) 101 0 [some (.int ((fn_77 h) - (fn_100 h x3))), some (.int (fn_77 h)), none, none, none, none] [] am_C0 h o g (fun w h' o' g' => am_X L xs (d + 2) 97 57 [some (.ref 0), q1, q2, some (.int x3), some (.int x4), some (.int (fn_77 h)), some (.int ((fn_77 h) - (fn_100 h x3))), q7] (w.toList ++ []) am_C0 h' o' g' Q T) T) : am_X L xs (d + 2) 97 28 [some (.ref 0), q1, q2, some (.int x3), some (.int x4), q5, q6, q7] [] am_C0 h o g Q T := by
  refine xo_2 rfl rfl ?_
  refine xo_13r rfl cr_0_8 ?_
  refine cl_77_61 rfl hd_97 rfl (sf_77 ?_)
  show am_X L xs (d + 2) 97 35 [some (.ref 0), q1, q2, some (.int x3), some (.int x4), q5, q6, q7] [.int (fn_77 h)] am_C0 h o g Q T
  refine xo_4 (lv' := [some (.ref 0), q1, q2, some (.int x3), some (.int x4), some (.int (fn_77 h)), q6, q7]) rfl rfl rfl ?_
  refine xo_1 rfl rfl ?_
  refine xo_2 rfl rfl ?_
  refine xo_13r rfl cr_0_8 ?_
  refine xo_1 rfl rfl ?_
  refine cl_100_61 rfl hd_97 rfl (sf_100 ?_)
  show am_X L xs (d + 2) 97 47 [some (.ref 0), q1, q2, some (.int x3), some (.int x4), some (.int (fn_77 h)), q6, q7] [.int (fn_100 h x3), .int (fn_77 h)] am_C0 h o g Q T
  refine xo_7 rfl rfl ?_
  refine xo_4 (lv' := [some (.ref 0), q1, q2, some (.int x3), some (.int x4), some (.int (fn_77 h)), some (.int ((fn_77 h) - (fn_100 h x3))), q7]) rfl rfl rfl ?_
  refine xo_1 rfl rfl ?_
  refine xo_1 rfl rfl ?_
  refine cl_101 rfl hd_97 rfl ?_
  exact H
theorem sm_97_57 {q0 : Option Value} {q1 : Option Value} {q2 : Option Value} {q3 : Option Value} {x4 : Int32} {x5 : Int32} {x6 : Int32} {q7 : Option Value} {z0 : Int32} (hq0 : am_nl q0 = true) (hq1 : am_nl q1 = true) (hq2 : am_nl q2 = true) (hq3 : am_nl q3 = true) (hq7 : am_nl q7 = true) (H : (if z0 = 0 then (if x4 = 0 then Q (some (.int 0)) h o g else Q (some (.int 1)) h o g) else (if x4 = 0 then (¬ z0 = 0 ∧ Q (some (.int (x6 / z0))) h o g) else (¬ z0 = 0 ∧ Q (some (.int (x5 / z0))) h o g)))) : am_X L xs d 97 57 [q0, q1, q2, q3, some (.int x4), some (.int x5), some (.int x6), q7] [.int z0] am_C0 h o g Q T := by
  refine xo_4 (lv' := [q0, q1, q2, q3, some (.int x4), some (.int x5), some (.int x6), some (.int z0)]) rfl rfl rfl ?_
  refine xo_1 rfl rfl ?_
  refine xo_10ne rfl (am_sp ?_ ?_ H)
  · intro hc1 H
    refine xo_1 rfl rfl ?_
    refine xo_10ne rfl (am_sp ?_ ?_ H)
    · intro hc2 H
      refine xo_0 rfl ?_
      refine xo_12 rfl ?_
      refine xo_41 rfl ?_
      exact H
    · intro hc2 H
      refine xo_0 rfl ?_
      refine xo_41 rfl ?_
      exact H
  · intro hc1 H
    refine xo_1 rfl rfl ?_
    refine xo_10ne rfl (am_sp ?_ ?_ H)
    · intro hc3 H
      refine xo_1 rfl rfl ?_
      refine xo_1 rfl rfl ?_
      obtain ⟨hg4, H⟩ := H
      refine xo_7d rfl hg4 ?_
      refine xo_12 rfl ?_
      refine xo_41 rfl ?_
      exact H
    · intro hc3 H
      refine xo_1 rfl rfl ?_
      refine xo_1 rfl rfl ?_
      obtain ⟨hg5, H⟩ := H
      refine xo_7d rfl hg5 ?_
      refine xo_41 rfl ?_
      exact H
