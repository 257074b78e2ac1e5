/-! ===== what the methods do, piece by piece (written by wip/gen/gen_wp.py) ===== -/
variable {L : Nat} {xs : Nat → Int32} {d : Nat} {h : am_M} {o : am_L} {g : Nat} {Q : Option Value → am_M → am_L → Nat → Prop} {T : Nat → am_M → am_L → Nat → Prop}
theorem sm_99 {x1 : Int32} {x2 : Int32} (H : am_X L xs d 76 0 [some (.ref 23), some (.int x1), some (.int x2), some (.int (h 23 0)), some (.int (-1)), some (.ref 61), none] [] am_C0 h o g (fun w h' o' g' => am_X L xs (d + 1) 99 21 [some (.ref 0), some (.int x1), some (.int x2)] (w.toList ++ []) am_C0 h' o' g' Q T) T) : am_X L xs (d + 1) 99 0 [some (.ref 0), some (.int x1), some (.int x2)] [] am_C0 h o g Q T := by
  refine xo_2 rfl rfl ?_
  refine xo_13r rfl cr_0_3 ?_
  refine xo_1 rfl rfl ?_
  refine xo_1 rfl rfl ?_
  refine xo_2 rfl rfl ?_
  refine xo_13r rfl cr_0_3 ?_
  refine xo_13 rfl cf_23_0 ?_
  refine xo_0 rfl ?_
  refine xo_2 rfl rfl ?_
  refine xo_13r rfl cr_0_8 ?_
  refine cl_76_23_61 rfl hd_99 rfl ?_
  exact H
theorem sm_99_21 {q0 : Option Value} {q1 : Option Value} {q2 : Option Value} (hq0 : am_nl q0 = true) (hq1 : am_nl q1 = true) (hq2 : am_nl q2 = true) (H : Q none h o g) : am_X L xs d 99 21 [q0, q1, q2] [] am_C0 h o g Q T := by
  refine xo_44 rfl ?_
  exact H
theorem sm_101 {x0 : Int32} {x1 : Int32} (H : am_X L xs d 101 7 [some (.int x0), some (.int x1), some (.int x0), some (.int x1), some (.int 0), none] [] am_C0 h o g Q T) : am_X L xs d 101 0 [some (.int x0), some (.int x1), none, none, none, none] [] am_C0 h o g Q T := by
  refine xo_1 rfl rfl ?_
  refine xo_4 (lv' := [some (.int x0), some (.int x1), some (.int x0), none, none, none]) rfl rfl rfl ?_
  refine xo_1 rfl rfl ?_
  refine xo_4 (lv' := [some (.int x0), some (.int x1), some (.int x0), some (.int x1), none, none]) rfl rfl rfl ?_
  refine xo_0 rfl ?_
  refine xo_4 (lv' := [some (.int x0), some (.int x1), some (.int x0), some (.int x1), some (.int 0), none]) rfl rfl rfl ?_
  exact H
theorem sm_101_7 {q0 : Option Value} {q1 : Option Value} {x2 : Int32} {x3 : Int32} {x4 : Int32} {q5 : Option Value} (hq0 : am_nl q0 = true) (hq1 : am_nl q1 = true) (hq5 : am_nl q5 = true) (H : (if x4 < 100 then (if x3 = 0 then Q (some (.int x2)) h o g else (¬ x3 = 0 ∧ am_X L xs d 101 7 [q0, q1, some (.int x3), some (.int (x2 - x2 / x3 * x3)), some (.int (x4 + 1)), some (.int (x2 - x2 / x3 * x3))] [] am_C0 h o g Q T)) else Q (some (.int x2)) h o g)) : am_X L xs d 101 7 [q0, q1, some (.int x2), some (.int x3), some (.int x4), q5] [] am_C0 h o g Q T := by
  refine xo_1 rfl rfl ?_
  refine xo_0 rfl ?_
  refine xo_11ge rfl (am_sp ?_ ?_ H)
  · intro hc1 H
    refine xo_1 rfl rfl ?_
    refine xo_10eq rfl (am_sp ?_ ?_ H)
    · intro hc2 H
      refine xo_1 rfl rfl ?_
      refine xo_41 rfl ?_
      exact H
    · intro hc2 H
      refine xo_1 rfl rfl ?_
      refine xo_1 rfl rfl ?_
      obtain ⟨hg3, H⟩ := H
      refine xo_7r rfl hg3 ?_
      refine xo_4 (lv' := [q0, q1, some (.int x2), some (.int x3), some (.int x4), some (.int (x2 - x2 / x3 * x3))]) rfl rfl rfl ?_
      refine xo_1 rfl rfl ?_
      refine xo_4 (lv' := [q0, q1, some (.int x3), some (.int x3), some (.int x4), some (.int (x2 - x2 / x3 * x3))]) rfl hq1 rfl ?_
      refine xo_1 rfl rfl ?_
      refine xo_4 (lv' := [q0, q1, some (.int x3), some (.int (x2 - x2 / x3 * x3)), some (.int x4), some (.int (x2 - x2 / x3 * x3))]) rfl rfl rfl ?_
      refine xo_9 (z := (x4 + 1)) (lv' := [q0, q1, some (.int x3), some (.int (x2 - x2 / x3 * x3)), some (.int (x4 + 1)), some (.int (x2 - x2 / x3 * x3))]) rfl rfl rfl rfl rfl ?_
      refine xo_12 rfl ?_
      exact H
  · intro hc1 H
    refine xo_1 rfl rfl ?_
    refine xo_41 rfl ?_
    exact H
theorem wr_102 {x1 : Int32} {x2 : Int32} {x3 : Int32} (H : am_X L xs d 103 0 [some (.ref 0), some (.int x1), some (.int x2), some (.int x3)] [] am_C0 h o g (fun w h' o' g' => ∃ y, w = some (.int y) ∧ Q (some (.int 0)) h' (am_setL o' 108 0 y.toInt64) g') (fun E h' o' g' => if E = 0 then Q (some (.int 1)) h' o' g' else if E = 1 then Q (some (.int 2)) h' o' g' else T E h' o' g')) : am_X L xs (d + 1) 102 0 [some (.ref 0), some (.int x1), some (.int x2), some (.int x3), some (.ref 108), none] [] am_C0 h o g Q T := by
  refine xo_2 rfl rfl ?_
  refine xo_0 rfl ?_
  refine xo_2 rfl rfl ?_
  refine xo_1 rfl rfl ?_
  refine xo_1 rfl rfl ?_
  refine xo_1 rfl rfl ?_
  refine ch_103 rfl rfl (am_X.mono H ?_ ?_)
  · rintro w h o g ⟨y, rfl, H⟩
    show am_X L xs (d + 1) 102 10 [some (.ref 0), some (.int x1), some (.int x2), some (.int x3), some (.ref 108), none] [.int y, .int 0, .ref 108] am_C0 h o g Q T
    refine xo_32 rfl ?_
    refine xo_26 rfl ca_108 (am_ix.lit rfl) ?_
    refine xo_12 rfl ?_
    refine xo_0 rfl ?_
    refine xo_41 rfl ?_
    exact H
  · intro E h o g H
    by_cases hE0 : E = 0
    · rw [if_pos hE0] at H
      subst hE0
      show am_X L xs (d + 1) 102 17 [some (.ref 0), some (.int x1), some (.int x2), some (.int x3), some (.ref 108), none] [] am_C0 h o g Q T
      refine xo_0 rfl ?_
      refine xo_41 rfl ?_
      exact H
    · rw [if_neg hE0] at H
      by_cases hE1 : E = 1
      · rw [if_pos hE1] at H
        subst hE1
        show am_X L xs (d + 1) 102 21 [some (.ref 0), some (.int x1), some (.int x2), some (.int x3), some (.ref 108), none] [] am_C0 h o g Q T
        refine xo_0 rfl ?_
        refine xo_41 rfl ?_
        exact H
      · rw [if_neg hE1] at H
        have e : am_hand (am_hd 102) 7 E = none := by
          show am_hand [(0, 12, 0, 17, 5), (0, 12, 1, 21, 5)] 7 E = none
          simp only [am_hand]
          rw [if_neg (fun q => hE0 q.2.2.symm)]
          rw [if_neg (fun q => hE1 q.2.2.symm)]
        show (match am_hand (am_hd 102) 7 E with | none => T E h o g | some (pc', j) => am_X L xs (d + 1) 102 pc' (am_st1 [some (.ref 0), some (.int x1), some (.int x2), some (.int x3), some (.ref 108), none] j none) [] am_C0 h o g Q T)
        rw [e]
        exact H
theorem sm_103 {x1 : Int32} {x2 : Int32} {x3 : Int32} (H : (if x1 < 0 then T 0 h o (g + 1) else (if x1 < (h 3 1) then (if x2 < 0 then T 0 h o (g + 1) else (if x2 < (h 3 0) then (if x3 < 1 then T 1 h o (g + 1) else (if 60 < x3 then T 1 h o (g + 1) else am_X L xs (d + 1) 85 0 [some (.ref 0), some (.int x1), some (.int 0), none] [] am_C0 h o g (fun w h' o' g' => am_X L xs (d + 2) 103 21 [some (.ref 0), some (.int x1), some (.int x2), some (.int x3)] (w.toList ++ []) am_C0 h' o' g' Q T) T)) else T 0 h o (g + 1))) else T 0 h o (g + 1)))) : am_X L xs (d + 2) 103 0 [some (.ref 0), some (.int x1), some (.int x2), some (.int x3)] [] am_C0 h o g Q T := by
  refine xo_2 rfl rfl ?_
  refine xo_1 rfl rfl ?_
  refine cl_50_0 rfl hd_103 rfl ?_
  refine xo_1 rfl rfl ?_
  refine xo_10lt rfl (am_sp ?_ ?_ H)
  · intro hc1 H
    refine xo_45 rfl (Nat.le_of_ble_eq_true rfl) ?_
    exact H
  · intro hc1 H
    refine xo_1 rfl rfl ?_
    refine xo_2 rfl rfl ?_
    refine xo_13r rfl cr_0_1 ?_
    refine xo_13 rfl cf_3_1 ?_
    refine xo_11lt rfl (am_sp ?_ ?_ H)
    · intro hc2 H
      refine xr_44 rfl ?_
      refine xo_2 rfl rfl ?_
      refine xo_1 rfl rfl ?_
      refine cl_45_0 rfl hd_103 rfl ?_
      refine xo_1 rfl rfl ?_
      refine xo_10lt rfl (am_sp ?_ ?_ H)
      · intro hc3 H
        refine xo_45 rfl (Nat.le_of_ble_eq_true rfl) ?_
        exact H
      · intro hc3 H
        refine xo_1 rfl rfl ?_
        refine xo_2 rfl rfl ?_
        refine xo_13r rfl cr_0_1 ?_
        refine xo_13 rfl cf_3_0 ?_
        refine xo_11lt rfl (am_sp ?_ ?_ H)
        · intro hc4 H
          refine xr_44 rfl ?_
          refine xo_2 rfl rfl ?_
          refine xo_1 rfl rfl ?_
          refine cl_98_0 rfl hd_103 rfl ?_
          refine xo_1 rfl rfl ?_
          refine cl_67 rfl hd_98 rfl ?_
          refine xo_1 rfl rfl ?_
          refine xo_0 rfl ?_
          refine xo_11lt rfl (am_sp ?_ ?_ H)
          · intro hc5 H
            refine xo_0 rfl ?_
            refine xr_42 rfl rfl ?_
            refine xo_10n rfl (by decide) ?_
            refine xo_45 rfl (Nat.le_of_ble_eq_true rfl) ?_
            exact H
          · intro hc5 H
            refine xo_1 rfl rfl ?_
            refine xo_0 rfl ?_
            refine xo_11gt rfl (am_sp ?_ ?_ H)
            · intro hc6 H
              refine xo_0 rfl ?_
              refine xr_42 rfl rfl ?_
              refine xo_10n rfl (by decide) ?_
              refine xo_45 rfl (Nat.le_of_ble_eq_true rfl) ?_
              exact H
            · intro hc6 H
              refine xo_0 rfl ?_
              refine xo_12 rfl ?_
              refine xr_42 rfl rfl ?_
              refine xo_10 rfl (by decide) ?_
              refine xr_44 rfl ?_
              refine xo_2 rfl rfl ?_
              refine xo_1 rfl rfl ?_
              refine xo_0 rfl ?_
              refine cl_85_0 rfl hd_103 rfl ?_
              exact H
        · intro hc4 H
          refine xo_45 rfl (Nat.le_of_ble_eq_true rfl) ?_
          exact H
    · intro hc2 H
      refine xo_45 rfl (Nat.le_of_ble_eq_true rfl) ?_
      exact H
theorem sm_103_21 {x1 : Int32} {x2 : Int32} {x3 : Int32} {z0 : Int32} (H : am_X L xs d 99 0 [some (.ref 0), some (.int x1), some (.int x2)] [] am_C0 h o g (fun w h' o' g' => am_X L xs (d + 1) 103 28 [some (.ref 0), some (.int x1), some (.int x2), some (.int x3)] (w.toList ++ []) am_C0 h' o' g' Q T) T) : am_X L xs (d + 1) 103 21 [some (.ref 0), some (.int x1), some (.int x2), some (.int x3)] [.int z0] am_C0 h o g Q T := by
  refine xo_30 rfl rfl ?_
  refine xo_2 rfl rfl ?_
  refine xo_1 rfl rfl ?_
  refine xo_1 rfl rfl ?_
  refine cl_99_0 rfl hd_103 rfl ?_
  exact H
theorem sm_103_28 {q1 : Option Value} {x2 : Int32} {x3 : Int32} (hq1 : am_nl q1 = true) (H : am_X L xs d 104 0 [some (.ref 0), some (.int x2), some (.int x3), none, none, none, none] [] am_C0 h o g (fun w h' o' g' => am_X L xs (d + 1) 103 34 [some (.ref 0), q1, some (.int x2), some (.int x3)] (w.toList ++ []) am_C0 h' o' g' Q T) T) : am_X L xs (d + 1) 103 28 [some (.ref 0), q1, some (.int x2), some (.int x3)] [] am_C0 h o g Q T := by
  refine xo_2 rfl rfl ?_
  refine xo_1 rfl rfl ?_
  refine xo_1 rfl rfl ?_
  refine cl_104_0 rfl hd_103 rfl ?_
  exact H
theorem sm_103_34 {q0 : Option Value} {q1 : Option Value} {q2 : Option Value} {q3 : Option Value} {z0 : Int32} (hq0 : am_nl q0 = true) (hq1 : am_nl q1 = true) (hq2 : am_nl q2 = true) (hq3 : am_nl q3 = true) (H : Q (some (.int z0)) h o g) : am_X L xs d 103 34 [q0, q1, q2, q3] [.int z0] am_C0 h o g Q T := by
  refine xo_41 rfl ?_
  exact H
theorem sm_104 {x1 : Int32} {x2 : Int32} (H : (if (fn_77 h) = 0 then Q (some (.int 0)) h o g else (if (fn_100 h x2) = 0 then Q (some (.int 0)) h o g else (if (fn_100 h x2) = (fn_77 h) then Q (some (.int 0)) h o g else (am_ix x1 5 ∧ am_X L xs (d + 1) 105 0 [some (.ref 45), some (.int x1), some (.int (((((h 61 0) + (fn_100 h x2)) - 1) + ((h 8 x1.toNatClampNeg) * ((h 30 x1.toNatClampNeg) / 10))) + (h 12 1))), none] [] am_C0 h o g (fun w h' o' g' => am_X L xs (d + 2) 104 73 [some (.ref 0), some (.int x1), some (.int x2), some (.int (fn_77 h)), some (.int (fn_100 h x2)), some (.int (((h 61 0) + (fn_100 h x2)) - 1)), none] (w.toList ++ []) am_C0 h' o' g' Q T) T))))) : am_X L xs (d + 2) 104 0 [some (.ref 0), some (.int x1), some (.int x2), none, none, none, none] [] am_C0 h o g Q T := by
  refine xo_2 rfl rfl ?_
  refine xo_13r rfl cr_0_8 ?_
  refine cl_77_61 rfl hd_104 rfl (sf_77 ?_)
  show am_X L xs (d + 2) 104 7 [some (.ref 0), some (.int x1), some (.int x2), none, none, none, none] [.int (fn_77 h)] am_C0 h o g Q T
  refine xo_4 (lv' := [some (.ref 0), some (.int x1), some (.int x2), some (.int (fn_77 h)), none, none, none]) rfl rfl rfl ?_
  refine xo_2 rfl rfl ?_
  refine xo_13r rfl cr_0_8 ?_
  refine xo_1 rfl rfl ?_
  refine cl_100_61 rfl hd_104 rfl (sf_100 ?_)
  show am_X L xs (d + 2) 104 16 [some (.ref 0), some (.int x1), some (.int x2), some (.int (fn_77 h)), none, none, none] [.int (fn_100 h x2)] am_C0 h o g Q T
  refine xo_4 (lv' := [some (.ref 0), some (.int x1), some (.int x2), some (.int (fn_77 h)), some (.int (fn_100 h x2)), none, none]) rfl rfl rfl ?_
  refine xo_1 rfl rfl ?_
  refine xo_10eq rfl (am_sp ?_ ?_ H)
  · intro hc1 H
    refine xo_0 rfl ?_
    refine xo_41 rfl ?_
    exact H
  · intro hc1 H
    refine xo_1 rfl rfl ?_
    refine xo_10eq rfl (am_sp ?_ ?_ H)
    · intro hc2 H
      refine xo_0 rfl ?_
      refine xo_41 rfl ?_
      exact H
    · intro hc2 H
      refine xo_1 rfl rfl ?_
      refine xo_1 rfl rfl ?_
      refine xo_11ne rfl (am_sp ?_ ?_ H)
      · intro hc3 H
        refine xo_0 rfl ?_
        refine xo_41 rfl ?_
        exact H
      · intro hc3 H
        refine xo_2 rfl rfl ?_
        refine xo_13r rfl cr_0_8 ?_
        refine xo_13 rfl cf_61_0 ?_
        refine xo_1 rfl rfl ?_
        refine xo_7 rfl rfl ?_
        refine xo_0 rfl ?_
        refine xo_7 rfl rfl ?_
        refine xo_4 (lv' := [some (.ref 0), some (.int x1), some (.int x2), some (.int (fn_77 h)), some (.int (fn_100 h x2)), some (.int (((h 61 0) + (fn_100 h x2)) - 1)), none]) rfl rfl rfl ?_
        refine xo_2 rfl rfl ?_
        refine xo_13r rfl cr_0_6 ?_
        refine xo_1 rfl rfl ?_
        refine xo_2 rfl rfl ?_
        refine xo_1 rfl rfl ?_
        refine xo_1 rfl rfl ?_
        refine xo_2 rfl rfl ?_
        refine xo_13r rfl cr_0_3 ?_
        refine xo_13r rfl cr_23_7 ?_
        refine xo_1 rfl rfl ?_
        obtain ⟨hg4, H⟩ := H
        refine xo_17 rfl ca_30 hg4 ?_
        refine cl_81_0 rfl hd_104 rfl ?_
        refine xo_1 rfl rfl ?_
        refine xo_2 rfl rfl ?_
        refine xo_13r rfl cr_0_1 ?_
        refine xo_1 rfl rfl ?_
        refine xo_1 rfl rfl ?_
        refine cl_82_3 rfl hd_81 rfl ?_
        refine xo_2 rfl rfl ?_
        refine xo_13r rfl cr_3_7 ?_
        refine xo_1 rfl rfl ?_
        refine xo_17 rfl ca_8 hg4 ?_
        refine xo_1 rfl rfl ?_
        refine xo_0 rfl ?_
        refine xo_7d rfl (by decide) ?_
        refine xo_7 rfl rfl ?_
        refine xr_41 rfl ?_
        refine xo_7 rfl rfl ?_
        refine xo_2 rfl rfl ?_
        refine xo_13r rfl cr_0_1 ?_
        refine xo_13r rfl cr_3_11 ?_
        refine xo_0 rfl ?_
        refine xo_17 rfl ca_12 (am_ix.lit rfl) ?_
        refine xo_7 rfl rfl ?_
        refine xr_41 rfl ?_
        refine cl_105_45 rfl hd_104 rfl ?_
        exact H
theorem sm_104_73 {q0 : Option Value} {q1 : Option Value} {q2 : Option Value} {x3 : Int32} {x4 : Int32} {q5 : Option Value} {q6 : Option Value} {z0 : Int32} (hq0 : am_nl q0 = true) (hq1 : am_nl q1 = true) (hq2 : am_nl q2 = true) (hq5 : am_nl q5 = true) (hq6 : am_nl q6 = true) (H : (¬ x3 = 0 ∧ Q (some (.int (((z0 * 1000) * x4) / x3))) h o g)) : am_X L xs d 104 73 [q0, q1, q2, some (.int x3), some (.int x4), q5, q6] [.int z0] am_C0 h o g Q T := by
  refine xo_4 (lv' := [q0, q1, q2, some (.int x3), some (.int x4), q5, some (.int z0)]) rfl hq5 rfl ?_
  refine xo_1 rfl rfl ?_
  refine xo_0 rfl ?_
  refine xo_7 rfl rfl ?_
  refine xo_1 rfl rfl ?_
  refine xo_7 rfl rfl ?_
  refine xo_1 rfl rfl ?_
  obtain ⟨hg1, H⟩ := H
  refine xo_7d rfl hg1 ?_
  refine xo_41 rfl ?_
  exact H
theorem sm_105 {x1 : Int32} {x2 : Int32} (H : am_X L xs d 88 0 [some (.ref 45), some (.int x1), some (.int x2), none, none] [] am_C0 h o g (fun w h' o' g' => am_X L xs (d + 1) 105 6 [some (.ref 45), some (.int x1), some (.int x2), none] (w.toList ++ []) am_C0 h' o' g' Q T) T) : am_X L xs (d + 1) 105 0 [some (.ref 45), some (.int x1), some (.int x2), none] [] am_C0 h o g Q T := by
  refine xo_2 rfl rfl ?_
  refine xo_1 rfl rfl ?_
  refine xo_1 rfl rfl ?_
  refine cl_88_45 rfl hd_105 rfl ?_
  exact H
theorem sm_105_6 {x1 : Int32} {x2 : Int32} {q3 : Option Value} {z0 : Int32} (hq3 : am_nl q3 = true) (H : (am_ix x1 5 ∧ (if z0 = (h 55 x1.toNatClampNeg) then Q (some (.int 0)) h o g else (if x1 = (h 45 11) then (if z0 = (h 45 12) then Q (some (.int (h 45 13))) h o g else am_X L xs d 106 0 [some (.ref 45), some (.int x1), some (.int x2), some (.int z0), none, none, none] [] am_C0 h o g (fun w h' o' g' => am_X L xs (d + 1) 105 43 [some (.ref 45), some (.int x1), some (.int x2), some (.int z0)] (w.toList ++ [.ref 45]) am_C0 h' o' g' Q T) T) else am_X L xs d 106 0 [some (.ref 45), some (.int x1), some (.int x2), some (.int z0), none, none, none] [] am_C0 h o g (fun w h' o' g' => am_X L xs (d + 1) 105 43 [some (.ref 45), some (.int x1), some (.int x2), some (.int z0)] (w.toList ++ [.ref 45]) am_C0 h' o' g' Q T) T)))) : am_X L xs (d + 1) 105 6 [some (.ref 45), some (.int x1), some (.int x2), q3] [.int z0] am_C0 h o g Q T := by
  refine xo_4 (lv' := [some (.ref 45), some (.int x1), some (.int x2), some (.int z0)]) rfl rfl rfl ?_
  refine xo_1 rfl rfl ?_
  refine xo_2 rfl rfl ?_
  refine xo_13r rfl cr_45_5 ?_
  refine xo_1 rfl rfl ?_
  obtain ⟨hg1, H⟩ := H
  refine xo_17 rfl ca_55 hg1 ?_
  refine xo_11ne rfl (am_sp ?_ ?_ H)
  · intro hc2 H
    refine xo_0 rfl ?_
    refine xo_41 rfl ?_
    exact H
  · intro hc2 H
    refine xo_1 rfl rfl ?_
    refine xo_2 rfl rfl ?_
    refine xo_13 rfl cf_45_11 ?_
    refine xo_11ne rfl (am_sp ?_ ?_ H)
    · intro hc3 H
      refine xo_1 rfl rfl ?_
      refine xo_2 rfl rfl ?_
      refine xo_13 rfl cf_45_12 ?_
      refine xo_11eq rfl (am_sp ?_ ?_ H)
      · intro hc4 H
        refine xo_2 rfl rfl ?_
        refine xo_13 rfl cf_45_13 ?_
        refine xo_41 rfl ?_
        exact H
      · intro hc4 H
        refine xo_2 rfl rfl ?_
        refine xo_2 rfl rfl ?_
        refine xo_1 rfl rfl ?_
        refine xo_1 rfl rfl ?_
        refine xo_1 rfl rfl ?_
        refine cl_106_45 rfl hd_105 rfl ?_
        exact H
    · intro hc3 H
      refine xo_2 rfl rfl ?_
      refine xo_2 rfl rfl ?_
      refine xo_1 rfl rfl ?_
      refine xo_1 rfl rfl ?_
      refine xo_1 rfl rfl ?_
      refine cl_106_45 rfl hd_105 rfl ?_
      exact H
theorem sm_105_43 {x1 : Int32} {q2 : Option Value} {x3 : Int32} {z1 : Int32} (hq2 : am_nl q2 = true) (H : Q (some (.int z1)) (am_set (am_set (am_set h 45 13 z1) 45 11 x1) 45 12 x3) o g) : am_X L xs d 105 43 [some (.ref 45), some (.int x1), q2, some (.int x3)] [.int z1, .ref 45] am_C0 h o g Q T := by
  refine xo_14 rfl cf_45_13 ?_
  refine xo_2 rfl rfl ?_
  refine xo_1 rfl rfl ?_
  refine xo_14 rfl cf_45_11 ?_
  refine xo_2 rfl rfl ?_
  refine xo_1 rfl rfl ?_
  refine xo_14 rfl cf_45_12 ?_
  refine xo_2 rfl rfl ?_
  refine xo_13 rfl cf_45_13 ?_
  refine xo_41 rfl ?_
  exact H
theorem sm_106 {x1 : Int32} {x2 : Int32} {x3 : Int32} (H : (am_ix x1 5 ∧ am_X L xs d 90 0 [some (.ref 45), some (.int (h 45 10)), none] [] am_C0 (am_set (am_set h 46 x1.toNatClampNeg x2) 55 x1.toNatClampNeg x3) o g (fun w h' o' g' => am_X L xs (d + 1) 106 38 [some (.ref 45), some (.int x1), some (.int x2), some (.int x3), some (.int (h 46 x1.toNatClampNeg)), some (.int (h 55 x1.toNatClampNeg)), none] (w.toList ++ []) am_C0 h' o' g' Q T) T)) : am_X L xs (d + 1) 106 0 [some (.ref 45), some (.int x1), some (.int x2), some (.int x3), none, none, none] [] am_C0 h o g Q T := by
  refine xo_2 rfl rfl ?_
  refine xo_13r rfl cr_45_0 ?_
  refine xo_1 rfl rfl ?_
  obtain ⟨hg1, H⟩ := H
  refine xo_17 rfl ca_46 hg1 ?_
  refine xo_4 (lv' := [some (.ref 45), some (.int x1), some (.int x2), some (.int x3), some (.int (h 46 x1.toNatClampNeg)), none, none]) rfl rfl rfl ?_
  refine xo_2 rfl rfl ?_
  refine xo_13r rfl cr_45_5 ?_
  refine xo_1 rfl rfl ?_
  refine xo_17 rfl ca_55 hg1 ?_
  refine xo_4 (lv' := [some (.ref 45), some (.int x1), some (.int x2), some (.int x3), some (.int (h 46 x1.toNatClampNeg)), some (.int (h 55 x1.toNatClampNeg)), none]) rfl rfl rfl ?_
  refine xo_2 rfl rfl ?_
  refine xo_13r rfl cr_45_0 ?_
  refine xo_1 rfl rfl ?_
  refine xo_1 rfl rfl ?_
  refine xo_22 rfl ca_46 hg1 ?_
  refine xo_2 rfl rfl ?_
  refine xo_13r rfl cr_45_5 ?_
  refine xo_1 rfl rfl ?_
  refine xo_1 rfl rfl ?_
  refine xo_22 rfl ca_55 hg1 ?_
  refine xo_2 rfl rfl ?_
  refine xo_2 rfl rfl ?_
  refine xo_13 rfl cf_45_10 ?_
  refine cl_90_45 rfl hd_106 rfl ?_
  exact H
theorem sm_106_38 {x1 : Int32} {q2 : Option Value} {q3 : Option Value} {x4 : Int32} {x5 : Int32} {q6 : Option Value} {z0 : Int32} (hq2 : am_nl q2 = true) (hq3 : am_nl q3 = true) (hq6 : am_nl q6 = true) (H : (am_ix x1 5 ∧ Q (some (.int (z0 - (h 45 10)))) (am_set (am_set h 46 x1.toNatClampNeg x4) 55 x1.toNatClampNeg x5) o g)) : am_X L xs d 106 38 [some (.ref 45), some (.int x1), q2, q3, some (.int x4), some (.int x5), q6] [.int z0] am_C0 h o g Q T := by
  refine xo_2 rfl rfl ?_
  refine xo_13 rfl cf_45_10 ?_
  refine xo_7 rfl rfl ?_
  refine xo_4 (lv' := [some (.ref 45), some (.int x1), q2, q3, some (.int x4), some (.int x5), some (.int (z0 - (h 45 10)))]) rfl rfl rfl ?_
  refine xo_2 rfl rfl ?_
  refine xo_13r rfl cr_45_0 ?_
  refine xo_1 rfl rfl ?_
  refine xo_1 rfl rfl ?_
  obtain ⟨hg1, H⟩ := H
  refine xo_22 rfl ca_46 hg1 ?_
  refine xo_2 rfl rfl ?_
  refine xo_13r rfl cr_45_5 ?_
  refine xo_1 rfl rfl ?_
  refine xo_1 rfl rfl ?_
  refine xo_22 rfl ca_55 hg1 ?_
  refine xo_1 rfl rfl ?_
  refine xo_41 rfl ?_
  exact H
theorem wr_107 {x1 : Int32} {x2 : Int32} (H : am_X L xs d 108 0 [some (.ref 0), some (.int x1), some (.int x2), none, none, none, none, none] [] am_C0 h o g (fun w h' o' g' => ∃ y, w = some (.int y) ∧ Q (some (.int 0)) h' (am_setL o' 108 0 y.toInt64) g') (fun E h' o' g' => if E = 0 then Q (some (.int 1)) h' o' g' else T E h' o' g')) : am_X L xs (d + 1) 107 0 [some (.ref 0), some (.int x1), some (.int x2), some (.ref 108), none] [] am_C0 h o g Q T := by
  refine xo_2 rfl rfl ?_
  refine xo_0 rfl ?_
  refine xo_2 rfl rfl ?_
  refine xo_1 rfl rfl ?_
  refine xo_1 rfl rfl ?_
  refine ch_108 rfl rfl (am_X.mono H ?_ ?_)
  · rintro w h o g ⟨y, rfl, H⟩
    show am_X L xs (d + 1) 107 8 [some (.ref 0), some (.int x1), some (.int x2), some (.ref 108), none] [.int y, .int 0, .ref 108] am_C0 h o g Q T
    refine xo_32 rfl ?_
    refine xo_26 rfl ca_108 (am_ix.lit rfl) ?_
    refine xo_12 rfl ?_
    refine xo_0 rfl ?_
    refine xo_41 rfl ?_
    exact H
  · intro E h o g H
    by_cases hE0 : E = 0
    · rw [if_pos hE0] at H
      subst hE0
      show am_X L xs (d + 1) 107 15 [some (.ref 0), some (.int x1), some (.int x2), some (.ref 108), none] [] am_C0 h o g Q T
      refine xo_0 rfl ?_
      refine xo_41 rfl ?_
      exact H
    · rw [if_neg hE0] at H
      have e : am_hand (am_hd 107) 5 E = none := by
        show am_hand [(0, 10, 0, 15, 4)] 5 E = none
        simp only [am_hand]
        rw [if_neg (fun q => hE0 q.2.2.symm)]
      show (match am_hand (am_hd 107) 5 E with | none => T E h o g | some (pc', j) => am_X L xs (d + 1) 107 pc' (am_st1 [some (.ref 0), some (.int x1), some (.int x2), some (.ref 108), none] j none) [] am_C0 h o g Q T)
      rw [e]
      exact H
theorem sm_108 {x1 : Int32} {x2 : Int32} (H : (if x1 < 0 then T 0 h o (g + 1) else (if x1 < (h 3 1) then (if x2 < 0 then T 0 h o (g + 1) else (if 1 < x2 then T 0 h o (g + 1) else am_X L xs d 85 0 [some (.ref 0), some (.int x1), some (.int 0), none] [] am_C0 h o g (fun w h' o' g' => am_X L xs (d + 1) 108 17 [some (.ref 0), some (.int x1), some (.int x2), none, none, none, none, none] (w.toList ++ []) am_C0 h' o' g' Q T) T)) else T 0 h o (g + 1)))) : am_X L xs (d + 1) 108 0 [some (.ref 0), some (.int x1), some (.int x2), none, none, none, none, none] [] am_C0 h o g Q T := by
  refine xo_2 rfl rfl ?_
  refine xo_1 rfl rfl ?_
  refine cl_50_0 rfl hd_108 rfl ?_
  refine xo_1 rfl rfl ?_
  refine xo_10lt rfl (am_sp ?_ ?_ H)
  · intro hc1 H
    refine xo_45 rfl (Nat.le_of_ble_eq_true rfl) ?_
    exact H
  · intro hc1 H
    refine xo_1 rfl rfl ?_
    refine xo_2 rfl rfl ?_
    refine xo_13r rfl cr_0_1 ?_
    refine xo_13 rfl cf_3_1 ?_
    refine xo_11lt rfl (am_sp ?_ ?_ H)
    · intro hc2 H
      refine xr_44 rfl ?_
      refine xo_2 rfl rfl ?_
      refine xo_1 rfl rfl ?_
      refine xo_0 rfl ?_
      refine cl_51_0 rfl hd_108 rfl ?_
      refine xo_1 rfl rfl ?_
      refine xo_10lt rfl (am_sp ?_ ?_ H)
      · intro hc3 H
        refine xo_45 rfl (Nat.le_of_ble_eq_true rfl) ?_
        exact H
      · intro hc3 H
        refine xo_1 rfl rfl ?_
        refine xo_1 rfl rfl ?_
        refine xo_11le rfl (am_sp ?_ ?_ H)
        · intro hc4 H
          refine xo_45 rfl (Nat.le_of_ble_eq_true rfl) ?_
          exact H
        · intro hc4 H
          refine xr_44 rfl ?_
          refine xo_2 rfl rfl ?_
          refine xo_1 rfl rfl ?_
          refine xo_0 rfl ?_
          refine cl_85_0 rfl hd_108 rfl ?_
          exact H
    · intro hc2 H
      refine xo_45 rfl (Nat.le_of_ble_eq_true rfl) ?_
      exact H
theorem sm_108_17 {x1 : Int32} {x2 : Int32} {q3 : Option Value} {q4 : Option Value} {q5 : Option Value} {q6 : Option Value} {q7 : Option Value} {z0 : Int32} (hq3 : am_nl q3 = true) (hq4 : am_nl q4 = true) (hq5 : am_nl q5 = true) (hq6 : am_nl q6 = true) (hq7 : am_nl q7 = true) (H : am_X L xs d 108 26 [some (.ref 0), some (.int x1), some (.int x2), some (.int (-1)), some (.int (-1)), some (.int 0), q6, q7] [] am_C0 h o g Q T) : am_X L xs d 108 17 [some (.ref 0), some (.int x1), some (.int x2), q3, q4, q5, q6, q7] [.int z0] am_C0 h o g Q T := by
  refine xo_30 rfl rfl ?_
  refine xo_0 rfl ?_
  refine xo_4 (lv' := [some (.ref 0), some (.int x1), some (.int x2), some (.int (-1)), q4, q5, q6, q7]) rfl rfl rfl ?_
  refine xo_0 rfl ?_
  refine xo_4 (lv' := [some (.ref 0), some (.int x1), some (.int x2), some (.int (-1)), some (.int (-1)), q5, q6, q7]) rfl rfl rfl ?_
  refine xo_0 rfl ?_
  refine xo_4 (lv' := [some (.ref 0), some (.int x1), some (.int x2), some (.int (-1)), some (.int (-1)), some (.int 0), q6, q7]) rfl rfl rfl ?_
  exact H
theorem sm_108_26 {x1 : Int32} {x2 : Int32} {x3 : Int32} {x4 : Int32} {x5 : Int32} {q6 : Option Value} {q7 : Option Value} (hq6 : am_nl q6 = true) (hq7 : am_nl q7 = true) (H : (if x5 < (h 3 0) then am_X L xs d 68 0 [some (.ref 23), some (.int x1), some (.int x5), none] [] am_C0 h o g (fun w h' o' g' => am_X L xs (d + 1) 108 48 [some (.ref 0), some (.int x1), some (.int x2), some (.int x3), some (.int x4), some (.int x5), q6, q7] (w.toList ++ []) am_C0 h' o' g' Q T) T else (if x2 = 0 then Q (some (.int x3)) h o g else Q (some (.int x4)) h o g))) : am_X L xs (d + 1) 108 26 [some (.ref 0), some (.int x1), some (.int x2), some (.int x3), some (.int x4), some (.int x5), q6, q7] [] am_C0 h o g Q T := by
  refine xo_1 rfl rfl ?_
  refine xo_2 rfl rfl ?_
  refine xo_13r rfl cr_0_1 ?_
  refine xo_13 rfl cf_3_0 ?_
  refine xo_11ge rfl (am_sp ?_ ?_ H)
  · intro hc1 H
    refine xo_2 rfl rfl ?_
    refine xo_13r rfl cr_0_3 ?_
    refine xo_1 rfl rfl ?_
    refine xo_1 rfl rfl ?_
    refine cl_68_23 rfl hd_108 rfl ?_
    exact H
  · intro hc1 H
    refine xo_1 rfl rfl ?_
    refine xo_10ne rfl (am_sp ?_ ?_ H)
    · intro hc2 H
      refine xo_1 rfl rfl ?_
      refine xo_12 rfl ?_
      refine xo_41 rfl ?_
      exact H
    · intro hc2 H
      refine xo_1 rfl rfl ?_
      refine xo_41 rfl ?_
      exact H
theorem sm_108_48 {x1 : Int32} {x2 : Int32} {x3 : Int32} {x4 : Int32} {x5 : Int32} {q6 : Option Value} {q7 : Option Value} {z0 : Int32} (hq6 : am_nl q6 = true) (hq7 : am_nl q7 = true) (H : (if z0 = 0 then am_X L xs d 99 0 [some (.ref 0), some (.int x1), some (.int x5)] [] am_C0 h o g (fun w h' o' g' => am_X L xs (d + 1) 108 58 [some (.ref 0), some (.int x1), some (.int x2), some (.int x3), some (.int x4), some (.int x5), q6, q7] (w.toList ++ []) am_C0 h' o' g' Q T) T else am_X L xs (d + 1) 108 26 [some (.ref 0), some (.int x1), some (.int x2), some (.int x3), some (.int x4), some (.int (x5 + 1)), q6, q7] [] am_C0 h o g Q T)) : am_X L xs (d + 1) 108 48 [some (.ref 0), some (.int x1), some (.int x2), some (.int x3), some (.int x4), some (.int x5), q6, q7] [.int z0] am_C0 h o g Q T := by
  refine xo_10ne rfl (am_sp ?_ ?_ H)
  · intro hc1 H
    refine xo_2 rfl rfl ?_
    refine xo_1 rfl rfl ?_
    refine xo_1 rfl rfl ?_
    refine cl_99_0 rfl hd_108 rfl ?_
    exact H
  · intro hc1 H
    refine xo_9 (z := (x5 + 1)) (lv' := [some (.ref 0), some (.int x1), some (.int x2), some (.int x3), some (.int x4), some (.int (x5 + 1)), q6, q7]) rfl rfl rfl rfl rfl ?_
    refine xo_12 rfl ?_
    exact H
theorem sm_108_58 {x1 : Int32} {x2 : Int32} {x3 : Int32} {x4 : Int32} {x5 : Int32} {q6 : Option Value} {q7 : Option Value} (hq6 : am_nl q6 = true) (hq7 : am_nl q7 = true) (H : am_X L xs d 108 61 [some (.ref 0), some (.int x1), some (.int x2), some (.int x3), some (.int x4), some (.int x5), some (.int 1), q7] [] am_C0 h o g Q T) : am_X L xs d 108 58 [some (.ref 0), some (.int x1), some (.int x2), some (.int x3), some (.int x4), some (.int x5), q6, q7] [] am_C0 h o g Q T := by
  refine xo_0 rfl ?_
  refine xo_4 (lv' := [some (.ref 0), some (.int x1), some (.int x2), some (.int x3), some (.int x4), some (.int x5), some (.int 1), q7]) rfl rfl rfl ?_
  exact H
theorem sm_108_61 {x1 : Int32} {x2 : Int32} {x3 : Int32} {x4 : Int32} {x5 : Int32} {x6 : Int32} {q7 : Option Value} (hq7 : am_nl q7 = true) (H : (if 60 < x6 then am_X L xs (d + 1) 108 26 [some (.ref 0), some (.int x1), some (.int x2), some (.int x3), some (.int x4), some (.int (x5 + 1)), some (.int x6), q7] [] am_C0 h o g Q T else am_X L xs d 104 0 [some (.ref 0), some (.int x5), some (.int x6), none, none, none, none] [] am_C0 h o g (fun w h' o' g' => am_X L xs (d + 1) 108 76 [some (.ref 0), some (.int x1), some (.int x2), some (.int x3), some (.int x4), some (.int x5), some (.int x6), q7] (w.toList ++ []) am_C0 h' o' g' Q T) T)) : am_X L xs (d + 1) 108 61 [some (.ref 0), some (.int x1), some (.int x2), some (.int x3), some (.int x4), some (.int x5), some (.int x6), q7] [] am_C0 h o g Q T := by
  refine xo_1 rfl rfl ?_
  refine xo_0 rfl ?_
  refine xo_11gt rfl (am_sp ?_ ?_ H)
  · intro hc1 H
    refine xo_9 (z := (x5 + 1)) (lv' := [some (.ref 0), some (.int x1), some (.int x2), some (.int x3), some (.int x4), some (.int (x5 + 1)), some (.int x6), q7]) rfl rfl rfl rfl rfl ?_
    refine xo_12 rfl ?_
    exact H
  · intro hc1 H
    refine xo_2 rfl rfl ?_
    refine xo_1 rfl rfl ?_
    refine xo_1 rfl rfl ?_
    refine cl_104_0 rfl hd_108 rfl ?_
    exact H
theorem sm_108_76 {x1 : Int32} {x2 : Int32} {x3 : Int32} {x4 : Int32} {x5 : Int32} {x6 : Int32} {q7 : Option Value} {z0 : Int32} (hq7 : am_nl q7 = true) (H : (if x4 < z0 then am_X L xs d 108 61 [some (.ref 0), some (.int x1), some (.int x2), some (.int ((100 * x5) + x6)), some (.int z0), some (.int x5), some (.int (x6 + 1)), some (.int z0)] [] am_C0 h o g Q T else am_X L xs d 108 61 [some (.ref 0), some (.int x1), some (.int x2), some (.int x3), some (.int x4), some (.int x5), some (.int (x6 + 1)), some (.int z0)] [] am_C0 h o g Q T)) : am_X L xs d 108 76 [some (.ref 0), some (.int x1), some (.int x2), some (.int x3), some (.int x4), some (.int x5), some (.int x6), q7] [.int z0] am_C0 h o g Q T := by
  refine xo_4 (lv' := [some (.ref 0), some (.int x1), some (.int x2), some (.int x3), some (.int x4), some (.int x5), some (.int x6), some (.int z0)]) rfl rfl rfl ?_
  refine xo_1 rfl rfl ?_
  refine xo_1 rfl rfl ?_
  refine xo_11le rfl (am_sp ?_ ?_ H)
  · intro hc1 H
    refine xo_1 rfl rfl ?_
    refine xo_4 (lv' := [some (.ref 0), some (.int x1), some (.int x2), some (.int x3), some (.int z0), some (.int x5), some (.int x6), some (.int z0)]) rfl rfl rfl ?_
    refine xo_0 rfl ?_
    refine xo_1 rfl rfl ?_
    refine xo_7 rfl rfl ?_
    refine xo_1 rfl rfl ?_
    refine xo_7 rfl rfl ?_
    refine xo_4 (lv' := [some (.ref 0), some (.int x1), some (.int x2), some (.int ((100 * x5) + x6)), some (.int z0), some (.int x5), some (.int x6), some (.int z0)]) rfl rfl rfl ?_
    refine xo_9 (z := (x6 + 1)) (lv' := [some (.ref 0), some (.int x1), some (.int x2), some (.int ((100 * x5) + x6)), some (.int z0), some (.int x5), some (.int (x6 + 1)), some (.int z0)]) rfl rfl rfl rfl rfl ?_
    refine xo_12 rfl ?_
    exact H
  · intro hc1 H
    refine xo_9 (z := (x6 + 1)) (lv' := [some (.ref 0), some (.int x1), some (.int x2), some (.int x3), some (.int x4), some (.int x5), some (.int (x6 + 1)), some (.int z0)]) rfl rfl rfl rfl rfl ?_
    refine xo_12 rfl ?_
    exact H
theorem wr_109 {x1 : Int32} {x2 : Int32} {x3 : Int32} (H : am_X L xs d 110 0 [some (.ref 0), some (.int x1), some (.int x2), some (.int x3), none, none, none, none, none, none] [] am_C0 h o g (fun w h' o' g' => ∃ y, w = some (.int y) ∧ Q (some (.int 0)) h' (am_setL o' 108 0 y.toInt64) g') (fun E h' o' g' => if E = 0 then Q (some (.int 1)) h' o' g' else T E h' o' g')) : am_X L xs (d + 1) 109 0 [some (.ref 0), some (.int x1), some (.int x2), some (.int x3), some (.ref 108), none] [] am_C0 h o g Q T := by
  refine xo_2 rfl rfl ?_
  refine xo_0 rfl ?_
  refine xo_2 rfl rfl ?_
  refine xo_1 rfl rfl ?_
  refine xo_1 rfl rfl ?_
  refine xo_1 rfl rfl ?_
  refine ch_110 rfl rfl (am_X.mono H ?_ ?_)
  · rintro w h o g ⟨y, rfl, H⟩
    show am_X L xs (d + 1) 109 10 [some (.ref 0), some (.int x1), some (.int x2), some (.int x3), some (.ref 108), none] [.int y, .int 0, .ref 108] am_C0 h o g Q T
    refine xo_32 rfl ?_
    refine xo_26 rfl ca_108 (am_ix.lit rfl) ?_
    refine xo_12 rfl ?_
    refine xo_0 rfl ?_
    refine xo_41 rfl ?_
    exact H
  · intro E h o g H
    by_cases hE0 : E = 0
    · rw [if_pos hE0] at H
      subst hE0
      show am_X L xs (d + 1) 109 17 [some (.ref 0), some (.int x1), some (.int x2), some (.int x3), some (.ref 108), none] [] am_C0 h o g Q T
      refine xo_0 rfl ?_
      refine xo_41 rfl ?_
      exact H
    · rw [if_neg hE0] at H
      have e : am_hand (am_hd 109) 7 E = none := by
        show am_hand [(0, 12, 0, 17, 5)] 7 E = none
        simp only [am_hand]
        rw [if_neg (fun q => hE0 q.2.2.symm)]
      show (match am_hand (am_hd 109) 7 E with | none => T E h o g | some (pc', j) => am_X L xs (d + 1) 109 pc' (am_st1 [some (.ref 0), some (.int x1), some (.int x2), some (.int x3), some (.ref 108), none] j none) [] am_C0 h o g Q T)
      rw [e]
      exact H
theorem sm_110 {x1 : Int32} {x2 : Int32} {x3 : Int32} (H : (if x1 < 0 then T 0 h o (g + 1) else (if x1 < (h 3 1) then (if x2 < 0 then T 0 h o (g + 1) else (if x2 < (h 3 0) then (if x3 < 0 then T 0 h o (g + 1) else (if x3 < (h 3 2) then am_X L xs d 80 0 [some (.ref 0), some (.int x1), some (.int x2), some (.int (h 23 0)), some (.int (-1))] [] am_C0 h o g (fun w h' o' g' => am_X L xs (d + 1) 110 29 [some (.ref 0), some (.int x1), some (.int x2), some (.int x3), none, none, none, none, none, none] (w.toList ++ []) am_C0 h' o' g' Q T) T else T 0 h o (g + 1))) else T 0 h o (g + 1))) else T 0 h o (g + 1)))) : am_X L xs (d + 1) 110 0 [some (.ref 0), some (.int x1), some (.int x2), some (.int x3), none, none, none, none, none, none] [] am_C0 h o g Q T := by
  refine xo_2 rfl rfl ?_
  refine xo_1 rfl rfl ?_
  refine cl_50_0 rfl hd_110 rfl ?_
  refine xo_1 rfl rfl ?_
  refine xo_10lt rfl (am_sp ?_ ?_ H)
  · intro hc1 H
    refine xo_45 rfl (Nat.le_of_ble_eq_true rfl) ?_
    exact H
  · intro hc1 H
    refine xo_1 rfl rfl ?_
    refine xo_2 rfl rfl ?_
    refine xo_13r rfl cr_0_1 ?_
    refine xo_13 rfl cf_3_1 ?_
    refine xo_11lt rfl (am_sp ?_ ?_ H)
    · intro hc2 H
      refine xr_44 rfl ?_
      refine xo_2 rfl rfl ?_
      refine xo_1 rfl rfl ?_
      refine cl_45_0 rfl hd_110 rfl ?_
      refine xo_1 rfl rfl ?_
      refine xo_10lt rfl (am_sp ?_ ?_ H)
      · intro hc3 H
        refine xo_45 rfl (Nat.le_of_ble_eq_true rfl) ?_
        exact H
      · intro hc3 H
        refine xo_1 rfl rfl ?_
        refine xo_2 rfl rfl ?_
        refine xo_13r rfl cr_0_1 ?_
        refine xo_13 rfl cf_3_0 ?_
        refine xo_11lt rfl (am_sp ?_ ?_ H)
        · intro hc4 H
          refine xr_44 rfl ?_
          refine xo_2 rfl rfl ?_
          refine xo_1 rfl rfl ?_
          refine cl_57_0 rfl hd_110 rfl ?_
          refine xo_1 rfl rfl ?_
          refine xo_10lt rfl (am_sp ?_ ?_ H)
          · intro hc5 H
            refine xo_45 rfl (Nat.le_of_ble_eq_true rfl) ?_
            exact H
          · intro hc5 H
            refine xo_1 rfl rfl ?_
            refine xo_2 rfl rfl ?_
            refine xo_13r rfl cr_0_1 ?_
            refine xo_13 rfl cf_3_2 ?_
            refine xo_11lt rfl (am_sp ?_ ?_ H)
            · intro hc6 H
              refine xr_44 rfl ?_
              refine xo_2 rfl rfl ?_
              refine xo_1 rfl rfl ?_
              refine xo_1 rfl rfl ?_
              refine xo_2 rfl rfl ?_
              refine xo_13r rfl cr_0_3 ?_
              refine xo_13 rfl cf_23_0 ?_
              refine xo_0 rfl ?_
              refine cl_80_0 rfl hd_110 rfl ?_
              exact H
            · intro hc6 H
              refine xo_45 rfl (Nat.le_of_ble_eq_true rfl) ?_
              exact H
        · intro hc4 H
          refine xo_45 rfl (Nat.le_of_ble_eq_true rfl) ?_
          exact H
    · intro hc2 H
      refine xo_45 rfl (Nat.le_of_ble_eq_true rfl) ?_
      exact H
theorem sm_110_29 {q1 : Option Value} {x2 : Int32} {x3 : Int32} {q4 : Option Value} {q5 : Option Value} {q6 : Option Value} {q7 : Option Value} {q8 : Option Value} {q9 : Option Value} {z0 : Int32} (hq1 : am_nl q1 = true) (hq4 : am_nl q4 = true) (hq5 : am_nl q5 = true) (hq6 : am_nl q6 = true) (hq7 : am_nl q7 = true) (hq8 : am_nl q8 = true) (hq9 : am_nl q9 = true) (H : (am_ix x2 5 ∧ am_X L xs d 60 0 [some (.ref 3), some (.int x3), some (.int (h 6 x2.toNatClampNeg)), some (.int (h 7 x2.toNatClampNeg)), some (.int 0), none, none, none] [] am_C0 h o g (fun w h' o' g' => am_X L xs (d + 1) 110 64 [some (.ref 0), q1, some (.int x2), some (.int x3), some (.int z0), some (.int (h 6 x2.toNatClampNeg)), q6, q7, q8, q9] (w.toList ++ [.int z0]) am_C0 h' o' g' Q T) T)) : am_X L xs (d + 1) 110 29 [some (.ref 0), q1, some (.int x2), some (.int x3), q4, q5, q6, q7, q8, q9] [.int z0] am_C0 h o g Q T := by
  refine xo_4 (lv' := [some (.ref 0), q1, some (.int x2), some (.int x3), some (.int z0), q5, q6, q7, q8, q9]) rfl rfl rfl ?_
  refine xo_2 rfl rfl ?_
  refine xo_13r rfl cr_0_1 ?_
  refine xo_13r rfl cr_3_5 ?_
  refine xo_1 rfl rfl ?_
  obtain ⟨hg1, H⟩ := H
  refine xo_17 rfl ca_6 hg1 ?_
  refine xo_4 (lv' := [some (.ref 0), q1, some (.int x2), some (.int x3), some (.int z0), some (.int (h 6 x2.toNatClampNeg)), q6, q7, q8, q9]) rfl rfl rfl ?_
  refine xo_1 rfl rfl ?_
  refine xo_2 rfl rfl ?_
  refine xo_13r rfl cr_0_1 ?_
  refine xo_1 rfl rfl ?_
  refine xo_1 rfl rfl ?_
  refine xo_2 rfl rfl ?_
  refine xo_13r rfl cr_0_1 ?_
  refine xo_13r rfl cr_3_6 ?_
  refine xo_1 rfl rfl ?_
  refine xo_17 rfl ca_7 hg1 ?_
  refine xo_0 rfl ?_
  refine cl_60_3 rfl hd_110 rfl ?_
  exact H
theorem sm_110_64 {q1 : Option Value} {x2 : Int32} {x3 : Int32} {x4 : Int32} {x5 : Int32} {q6 : Option Value} {q7 : Option Value} {q8 : Option Value} {q9 : Option Value} {z0 : Int32} {z1 : Int32} (hq1 : am_nl q1 = true) (hq6 : am_nl q6 = true) (hq7 : am_nl q7 = true) (hq8 : am_nl q8 = true) (hq9 : am_nl q9 = true) (H : (if z1 < z0 then Q (some (.int (-1))) h o g else am_X L xs d 110 80 [some (.ref 0), q1, some (.int x2), some (.int x3), some (.int x4), some (.int x5), some (.int 0), some (.int 9999), some (.int 0), q9] [] am_C0 h o g Q T)) : am_X L xs d 110 64 [some (.ref 0), q1, some (.int x2), some (.int x3), some (.int x4), some (.int x5), q6, q7, q8, q9] [.int z1, .int z0] am_C0 h o g Q T := by
  refine xo_11le rfl (am_sp ?_ ?_ H)
  · intro hc1 H
    refine xo_0 rfl ?_
    refine xo_41 rfl ?_
    exact H
  · intro hc1 H
    refine xo_0 rfl ?_
    refine xo_4 (lv' := [some (.ref 0), q1, some (.int x2), some (.int x3), some (.int x4), some (.int x5), some (.int 0), q7, q8, q9]) rfl rfl rfl ?_
    refine xo_0 rfl ?_
    refine xo_4 (lv' := [some (.ref 0), q1, some (.int x2), some (.int x3), some (.int x4), some (.int x5), some (.int 0), some (.int 9999), q8, q9]) rfl rfl rfl ?_
    refine xo_0 rfl ?_
    refine xo_4 (lv' := [some (.ref 0), q1, some (.int x2), some (.int x3), some (.int x4), some (.int x5), some (.int 0), some (.int 9999), some (.int 0), q9]) rfl rfl rfl ?_
    exact H
theorem sm_110_80 {q1 : Option Value} {x2 : Int32} {x3 : Int32} {x4 : Int32} {x5 : Int32} {x6 : Int32} {x7 : Int32} {x8 : Int32} {q9 : Option Value} (hq1 : am_nl q1 = true) (hq9 : am_nl q9 = true) (H : (if x8 < 14 then (if x6 < x7 then (am_ix x2 5 ∧ am_X L xs d 60 0 [some (.ref 3), some (.int x3), some (.int x5), some (.int (h 7 x2.toNatClampNeg)), some (.int (((x6 + x7) + 1) / 2)), none, none, none] [] am_C0 h o g (fun w h' o' g' => am_X L xs (d + 1) 110 128 [some (.ref 0), q1, some (.int x2), some (.int x3), some (.int x4), some (.int x5), some (.int x6), some (.int x7), some (.int x8), some (.int (((x6 + x7) + 1) / 2))] (w.toList ++ [.int x4]) am_C0 h' o' g' Q T) T) else Q (some (.int x6)) h o g) else Q (some (.int x6)) h o g)) : am_X L xs (d + 1) 110 80 [some (.ref 0), q1, some (.int x2), some (.int x3), some (.int x4), some (.int x5), some (.int x6), some (.int x7), some (.int x8), q9] [] am_C0 h o g Q T := by
  refine xo_1 rfl rfl ?_
  refine xo_0 rfl ?_
  refine xo_11ge rfl (am_sp ?_ ?_ H)
  · intro hc1 H
    refine xo_1 rfl rfl ?_
    refine xo_1 rfl rfl ?_
    refine xo_11ge rfl (am_sp ?_ ?_ H)
    · intro hc2 H
      refine xo_1 rfl rfl ?_
      refine xo_1 rfl rfl ?_
      refine xo_7 rfl rfl ?_
      refine xo_0 rfl ?_
      refine xo_7 rfl rfl ?_
      refine xo_0 rfl ?_
      refine xo_7d rfl (by decide) ?_
      refine xo_4 (lv' := [some (.ref 0), q1, some (.int x2), some (.int x3), some (.int x4), some (.int x5), some (.int x6), some (.int x7), some (.int x8), some (.int (((x6 + x7) + 1) / 2))]) rfl rfl rfl ?_
      refine xo_1 rfl rfl ?_
      refine xo_2 rfl rfl ?_
      refine xo_13r rfl cr_0_1 ?_
      refine xo_1 rfl rfl ?_
      refine xo_1 rfl rfl ?_
      refine xo_2 rfl rfl ?_
      refine xo_13r rfl cr_0_1 ?_
      refine xo_13r rfl cr_3_6 ?_
      refine xo_1 rfl rfl ?_
      obtain ⟨hg3, H⟩ := H
      refine xo_17 rfl ca_7 hg3 ?_
      refine xo_1 rfl rfl ?_
      refine cl_60_3 rfl hd_110 rfl ?_
      exact H
    · intro hc2 H
      refine xo_1 rfl rfl ?_
      refine xo_41 rfl ?_
      exact H
  · intro hc1 H
    refine xo_1 rfl rfl ?_
    refine xo_41 rfl ?_
    exact H
theorem sm_110_128 {q1 : Option Value} {x2 : Int32} {x3 : Int32} {x4 : Int32} {x5 : Int32} {x6 : Int32} {x7 : Int32} {x8 : Int32} {x9 : Int32} {z0 : Int32} {z1 : Int32} (hq1 : am_nl q1 = true) (H : (if z1 < z0 then am_X L xs d 110 80 [some (.ref 0), q1, some (.int x2), some (.int x3), some (.int x4), some (.int x5), some (.int x6), some (.int (x9 - 1)), some (.int (x8 + 1)), some (.int x9)] [] am_C0 h o g Q T else am_X L xs d 110 80 [some (.ref 0), q1, some (.int x2), some (.int x3), some (.int x4), some (.int x5), some (.int x9), some (.int x7), some (.int (x8 + 1)), some (.int x9)] [] am_C0 h o g Q T)) : am_X L xs d 110 128 [some (.ref 0), q1, some (.int x2), some (.int x3), some (.int x4), some (.int x5), some (.int x6), some (.int x7), some (.int x8), some (.int x9)] [.int z1, .int z0] am_C0 h o g Q T := by
  refine xo_11gt rfl (am_sp ?_ ?_ H)
  · intro hc1 H
    refine xo_1 rfl rfl ?_
    refine xo_0 rfl ?_
    refine xo_7 rfl rfl ?_
    refine xo_4 (lv' := [some (.ref 0), q1, some (.int x2), some (.int x3), some (.int x4), some (.int x5), some (.int x6), some (.int (x9 - 1)), some (.int x8), some (.int x9)]) rfl rfl rfl ?_
    refine xo_9 (z := (x8 + 1)) (lv' := [some (.ref 0), q1, some (.int x2), some (.int x3), some (.int x4), some (.int x5), some (.int x6), some (.int (x9 - 1)), some (.int (x8 + 1)), some (.int x9)]) rfl rfl rfl rfl rfl ?_
    refine xo_12 rfl ?_
    exact H
  · intro hc1 H
    refine xo_1 rfl rfl ?_
    refine xo_4 (lv' := [some (.ref 0), q1, some (.int x2), some (.int x3), some (.int x4), some (.int x5), some (.int x9), some (.int x7), some (.int x8), some (.int x9)]) rfl rfl rfl ?_
    refine xo_12 rfl ?_
    refine xo_9 (z := (x8 + 1)) (lv' := [some (.ref 0), q1, some (.int x2), some (.int x3), some (.int x4), some (.int x5), some (.int x9), some (.int x7), some (.int (x8 + 1)), some (.int x9)]) rfl rfl rfl rfl rfl ?_
    refine xo_12 rfl ?_
    exact H
theorem wr_111 {x1 : Int32} {x2 : Int32} {x3 : Int32} (H : am_X L xs d 112 0 [some (.ref 0), some (.int x1), some (.int x2), some (.int x3), none, none] [] am_C0 h o g (fun w h' o' g' => ∃ y, w = some (.int y) ∧ Q (some (.int 0)) h' (am_setL o' 108 0 y.toInt64) g') (fun E h' o' g' => if E = 0 then Q (some (.int 1)) h' o' g' else T E h' o' g')) : am_X L xs (d + 1) 111 0 [some (.ref 0), some (.int x1), some (.int x2), some (.int x3), some (.ref 108), none] [] am_C0 h o g Q T := by
  refine xo_2 rfl rfl ?_
  refine xo_0 rfl ?_
  refine xo_2 rfl rfl ?_
  refine xo_1 rfl rfl ?_
  refine xo_1 rfl rfl ?_
  refine xo_1 rfl rfl ?_
  refine ch_112 rfl rfl (am_X.mono H ?_ ?_)
  · rintro w h o g ⟨y, rfl, H⟩
    show am_X L xs (d + 1) 111 10 [some (.ref 0), some (.int x1), some (.int x2), some (.int x3), some (.ref 108), none] [.int y, .int 0, .ref 108] am_C0 h o g Q T
    refine xo_32 rfl ?_
    refine xo_26 rfl ca_108 (am_ix.lit rfl) ?_
    refine xo_12 rfl ?_
    refine xo_0 rfl ?_
    refine xo_41 rfl ?_
    exact H
  · intro E h o g H
    by_cases hE0 : E = 0
    · rw [if_pos hE0] at H
      subst hE0
      show am_X L xs (d + 1) 111 17 [some (.ref 0), some (.int x1), some (.int x2), some (.int x3), some (.ref 108), none] [] am_C0 h o g Q T
      refine xo_0 rfl ?_
      refine xo_41 rfl ?_
      exact H
    · rw [if_neg hE0] at H
      have e : am_hand (am_hd 111) 7 E = none := by
        show am_hand [(0, 12, 0, 17, 5)] 7 E = none
        simp only [am_hand]
        rw [if_neg (fun q => hE0 q.2.2.symm)]
      show (match am_hand (am_hd 111) 7 E with | none => T E h o g | some (pc', j) => am_X L xs (d + 1) 111 pc' (am_st1 [some (.ref 0), some (.int x1), some (.int x2), some (.int x3), some (.ref 108), none] j none) [] am_C0 h o g Q T)
      rw [e]
      exact H
theorem sm_112 {x1 : Int32} {x2 : Int32} {x3 : Int32} (H : (if x1 < 0 then T 0 h o (g + 1) else (if x1 < (h 3 1) then (if x2 < 0 then T 0 h o (g + 1) else (if x2 < (h 3 0) then (if x3 < 0 then T 0 h o (g + 1) else (if x3 < (h 3 2) then am_X L xs d 99 0 [some (.ref 0), some (.int x1), some (.int x2)] [] am_C0 h o g (fun w h' o' g' => am_X L xs (d + 1) 112 21 [some (.ref 0), some (.int x1), some (.int x2), some (.int x3), none, none] (w.toList ++ []) am_C0 h' o' g' Q T) T else T 0 h o (g + 1))) else T 0 h o (g + 1))) else T 0 h o (g + 1)))) : am_X L xs (d + 1) 112 0 [some (.ref 0), some (.int x1), some (.int x2), some (.int x3), none, none] [] am_C0 h o g Q T := by
  refine xo_2 rfl rfl ?_
  refine xo_1 rfl rfl ?_
  refine cl_50_0 rfl hd_112 rfl ?_
  refine xo_1 rfl rfl ?_
  refine xo_10lt rfl (am_sp ?_ ?_ H)
  · intro hc1 H
    refine xo_45 rfl (Nat.le_of_ble_eq_true rfl) ?_
    exact H
  · intro hc1 H
    refine xo_1 rfl rfl ?_
    refine xo_2 rfl rfl ?_
    refine xo_13r rfl cr_0_1 ?_
    refine xo_13 rfl cf_3_1 ?_
    refine xo_11lt rfl (am_sp ?_ ?_ H)
    · intro hc2 H
      refine xr_44 rfl ?_
      refine xo_2 rfl rfl ?_
      refine xo_1 rfl rfl ?_
      refine cl_45_0 rfl hd_112 rfl ?_
      refine xo_1 rfl rfl ?_
      refine xo_10lt rfl (am_sp ?_ ?_ H)
      · intro hc3 H
        refine xo_45 rfl (Nat.le_of_ble_eq_true rfl) ?_
        exact H
      · intro hc3 H
        refine xo_1 rfl rfl ?_
        refine xo_2 rfl rfl ?_
        refine xo_13r rfl cr_0_1 ?_
        refine xo_13 rfl cf_3_0 ?_
        refine xo_11lt rfl (am_sp ?_ ?_ H)
        · intro hc4 H
          refine xr_44 rfl ?_
          refine xo_2 rfl rfl ?_
          refine xo_1 rfl rfl ?_
          refine cl_57_0 rfl hd_112 rfl ?_
          refine xo_1 rfl rfl ?_
          refine xo_10lt rfl (am_sp ?_ ?_ H)
          · intro hc5 H
            refine xo_45 rfl (Nat.le_of_ble_eq_true rfl) ?_
            exact H
          · intro hc5 H
            refine xo_1 rfl rfl ?_
            refine xo_2 rfl rfl ?_
            refine xo_13r rfl cr_0_1 ?_
            refine xo_13 rfl cf_3_2 ?_
            refine xo_11lt rfl (am_sp ?_ ?_ H)
            · intro hc6 H
              refine xr_44 rfl ?_
              refine xo_2 rfl rfl ?_
              refine xo_1 rfl rfl ?_
              refine xo_1 rfl rfl ?_
              refine cl_99_0 rfl hd_112 rfl ?_
              exact H
            · intro hc6 H
              refine xo_45 rfl (Nat.le_of_ble_eq_true rfl) ?_
              exact H
        · intro hc4 H
          refine xo_45 rfl (Nat.le_of_ble_eq_true rfl) ?_
          exact H
    · intro hc2 H
      refine xo_45 rfl (Nat.le_of_ble_eq_true rfl) ?_
      exact H
theorem sm_112_21 {q1 : Option Value} {x2 : Int32} {x3 : Int32} {q4 : Option Value} {q5 : Option Value} (hq1 : am_nl q1 = true) (hq4 : am_nl q4 = true) (hq5 : am_nl q5 = true) (H : (if (h 61 1) < (h 61 0) then Q (some (.int (-1))) h o g else (am_ix x2 5 ∧ am_X L xs d 60 0 [some (.ref 3), some (.int x3), some (.int (h 6 x2.toNatClampNeg)), some (.int (h 7 x2.toNatClampNeg)), some (.int 0), none, none, none] [] am_C0 h o g (fun w h' o' g' => am_X L xs (d + 1) 112 60 [some (.ref 0), q1, some (.int x2), some (.int x3), q4, q5] (w.toList ++ []) am_C0 h' o' g' Q T) T))) : am_X L xs (d + 1) 112 21 [some (.ref 0), q1, some (.int x2), some (.int x3), q4, q5] [] am_C0 h o g Q T := by
  refine xo_2 rfl rfl ?_
  refine xo_13r rfl cr_0_8 ?_
  refine cl_19_61 rfl hd_112 rfl ?_
  refine xo_2 rfl rfl ?_
  refine xo_13 rfl cf_61_0 ?_
  refine xo_2 rfl rfl ?_
  refine xo_13 rfl cf_61_1 ?_
  refine xo_11le rfl (am_sp ?_ ?_ H)
  · intro hc1 H
    refine xo_0 rfl ?_
    refine xo_12 rfl ?_
    refine xr_42 rfl rfl ?_
    refine xo_10n rfl (by decide) ?_
    refine xo_0 rfl ?_
    refine xo_41 rfl ?_
    exact H
  · intro hc1 H
    refine xo_0 rfl ?_
    refine xr_42 rfl rfl ?_
    refine xo_10 rfl (by decide) ?_
    refine xo_2 rfl rfl ?_
    refine xo_13r rfl cr_0_1 ?_
    refine xo_1 rfl rfl ?_
    refine xo_2 rfl rfl ?_
    refine xo_13r rfl cr_0_1 ?_
    refine xo_13r rfl cr_3_5 ?_
    refine xo_1 rfl rfl ?_
    obtain ⟨hg2, H⟩ := H
    refine xo_17 rfl ca_6 hg2 ?_
    refine xo_2 rfl rfl ?_
    refine xo_13r rfl cr_0_1 ?_
    refine xo_13r rfl cr_3_6 ?_
    refine xo_1 rfl rfl ?_
    refine xo_17 rfl ca_7 hg2 ?_
    refine xo_0 rfl ?_
    refine cl_60_3 rfl hd_112 rfl ?_
    exact H
theorem sm_112_60 {q1 : Option Value} {x2 : Int32} {q3 : Option Value} {q4 : Option Value} {q5 : Option Value} {z0 : Int32} (hq1 : am_nl q1 = true) (hq3 : am_nl q3 = true) (hq4 : am_nl q4 = true) (hq5 : am_nl q5 = true) (H : am_X L xs d 112 66 [some (.ref 0), q1, some (.int x2), q3, some (.int z0), some (.int 99)] [] am_C0 h o g Q T) : am_X L xs d 112 60 [some (.ref 0), q1, some (.int x2), q3, q4, q5] [.int z0] am_C0 h o g Q T := by
  refine xo_4 (lv' := [some (.ref 0), q1, some (.int x2), q3, some (.int z0), q5]) rfl hq3 rfl ?_
  refine xo_0 rfl ?_
  refine xo_4 (lv' := [some (.ref 0), q1, some (.int x2), q3, some (.int z0), some (.int 99)]) rfl rfl rfl ?_
  exact H
theorem sm_112_66 {q1 : Option Value} {x2 : Int32} {q3 : Option Value} {x4 : Int32} {x5 : Int32} (hq1 : am_nl q1 = true) (hq3 : am_nl q3 = true) (H : (if x5 < 0 then Q (some (.int (-1))) h o g else (am_ix x2 5 ∧ (if x4 < (((h 61 1) + ((h 8 x2.toNatClampNeg) * (x5 / 10))) + (h 12 1)) then am_X L xs (d + 2) 112 66 [some (.ref 0), q1, some (.int x2), q3, some (.int x4), some (.int (x5 + (-1)))] [] am_C0 h o g Q T else Q (some (.int x5)) h o g)))) : am_X L xs (d + 2) 112 66 [some (.ref 0), q1, some (.int x2), q3, some (.int x4), some (.int x5)] [] am_C0 h o g Q T := by
  refine xo_1 rfl rfl ?_
  refine xo_10lt rfl (am_sp ?_ ?_ H)
  · intro hc1 H
    refine xo_0 rfl ?_
    refine xo_41 rfl ?_
    exact H
  · intro hc1 H
    refine xo_2 rfl rfl ?_
    refine xo_1 rfl rfl ?_
    refine xo_2 rfl rfl ?_
    refine xo_13r rfl cr_0_8 ?_
    refine xo_13 rfl cf_61_1 ?_
    refine xo_1 rfl rfl ?_
    refine cl_81_0 rfl hd_112 rfl ?_
    refine xo_1 rfl rfl ?_
    refine xo_2 rfl rfl ?_
    refine xo_13r rfl cr_0_1 ?_
    refine xo_1 rfl rfl ?_
    refine xo_1 rfl rfl ?_
    refine cl_82_3 rfl hd_81 rfl ?_
    refine xo_2 rfl rfl ?_
    refine xo_13r rfl cr_3_7 ?_
    refine xo_1 rfl rfl ?_
    obtain ⟨hg2, H⟩ := H
    refine xo_17 rfl ca_8 hg2 ?_
    refine xo_1 rfl rfl ?_
    refine xo_0 rfl ?_
    refine xo_7d rfl (by decide) ?_
    refine xo_7 rfl rfl ?_
    refine xr_41 rfl ?_
    refine xo_7 rfl rfl ?_
    refine xo_2 rfl rfl ?_
    refine xo_13r rfl cr_0_1 ?_
    refine xo_13r rfl cr_3_11 ?_
    refine xo_0 rfl ?_
    refine xo_17 rfl ca_12 (am_ix.lit rfl) ?_
    refine xo_7 rfl rfl ?_
    refine xr_41 rfl ?_
    refine xo_1 rfl rfl ?_
    refine xo_11gt rfl (am_sp ?_ ?_ H)
    · intro hc3 H
      refine xo_9 (z := (x5 + (-1))) (lv' := [some (.ref 0), q1, some (.int x2), q3, some (.int x4), some (.int (x5 + (-1)))]) rfl rfl rfl rfl rfl ?_
      refine xo_12 rfl ?_
      exact H
    · intro hc3 H
      refine xo_1 rfl rfl ?_
      refine xo_41 rfl ?_
      exact H
theorem wr_113 {x1 : Int32} {x2 : Int32} {x3 : Int32} {x4 : Int32} {x5 : Int32} {x6 : Int32} (H : am_X L xs d 114 0 [some (.ref 0), some (.int x1), some (.int x2), some (.int x3), some (.int x4), some (.int x5), some (.int x6), none, none] [] am_C0 h o g (fun w h' o' g' => ∃ y, w = some (.int y) ∧ Q (some (.int 0)) h' (am_setL o' 108 0 y.toInt64) g') (fun E h' o' g' => if E = 0 then Q (some (.int 1)) h' o' g' else if E = 1 then Q (some (.int 2)) h' o' g' else T E h' o' g')) : am_X L xs (d + 1) 113 0 [some (.ref 0), some (.int x1), some (.int x2), some (.int x3), some (.int x4), some (.int x5), some (.int x6), some (.ref 108), none] [] am_C0 h o g Q T := by
  refine xo_2 rfl rfl ?_
  refine xo_0 rfl ?_
  refine xo_2 rfl rfl ?_
  refine xo_1 rfl rfl ?_
  refine xo_1 rfl rfl ?_
  refine xo_1 rfl rfl ?_
  refine xo_1 rfl rfl ?_
  refine xo_1 rfl rfl ?_
  refine xo_1 rfl rfl ?_
  refine ch_114 rfl rfl (am_X.mono H ?_ ?_)
  · rintro w h o g ⟨y, rfl, H⟩
    show am_X L xs (d + 1) 113 16 [some (.ref 0), some (.int x1), some (.int x2), some (.int x3), some (.int x4), some (.int x5), some (.int x6), some (.ref 108), none] [.int y, .int 0, .ref 108] am_C0 h o g Q T
    refine xo_32 rfl ?_
    refine xo_26 rfl ca_108 (am_ix.lit rfl) ?_
    refine xo_12 rfl ?_
    refine xo_0 rfl ?_
    refine xo_41 rfl ?_
    exact H
  · intro E h o g H
    by_cases hE0 : E = 0
    · rw [if_pos hE0] at H
      subst hE0
      show am_X L xs (d + 1) 113 23 [some (.ref 0), some (.int x1), some (.int x2), some (.int x3), some (.int x4), some (.int x5), some (.int x6), some (.ref 108), none] [] am_C0 h o g Q T
      refine xo_0 rfl ?_
      refine xo_41 rfl ?_
      exact H
    · rw [if_neg hE0] at H
      by_cases hE1 : E = 1
      · rw [if_pos hE1] at H
        subst hE1
        show am_X L xs (d + 1) 113 27 [some (.ref 0), some (.int x1), some (.int x2), some (.int x3), some (.int x4), some (.int x5), some (.int x6), some (.ref 108), none] [] am_C0 h o g Q T
        refine xo_0 rfl ?_
        refine xo_41 rfl ?_
        exact H
      · rw [if_neg hE1] at H
        have e : am_hand (am_hd 113) 13 E = none := by
          show am_hand [(0, 18, 0, 23, 8), (0, 18, 1, 27, 8)] 13 E = none
          simp only [am_hand]
          rw [if_neg (fun q => hE0 q.2.2.symm)]
          rw [if_neg (fun q => hE1 q.2.2.symm)]
        show (match am_hand (am_hd 113) 13 E with | none => T E h o g | some (pc', j) => am_X L xs (d + 1) 113 pc' (am_st1 [some (.ref 0), some (.int x1), some (.int x2), some (.int x3), some (.int x4), some (.int x5), some (.int x6), some (.ref 108), none] j none) [] am_C0 h o g Q T)
        rw [e]
        exact H
theorem sm_114 {x1 : Int32} {x2 : Int32} {x3 : Int32} {x4 : Int32} {x5 : Int32} {x6 : Int32} (H : (if x1 < 0 then T 0 h o (g + 1) else (if x1 < (h 3 1) then (if x2 < 0 then T 0 h o (g + 1) else (if x2 < (h 3 0) then (if x3 < 0 then T 0 h o (g + 1) else (if x3 < (h 3 2) then (if x4 < 0 then T 0 h o (g + 1) else (if 99 < x4 then T 0 h o (g + 1) else (if x6 < 0 then T 1 h o (g + 1) else (if (h 23 0) < x6 then T 1 h o (g + 1) else am_X L xs d 46 0 [some (.ref 0), some (.int x2)] [] am_C0 h o g (fun w h' o' g' => am_X L xs (d + 1) 114 32 [some (.ref 0), some (.int x1), some (.int x2), some (.int x3), some (.int x4), some (.int x5), some (.int x6), none, none] (w.toList ++ []) am_C0 h' o' g' Q T) T)))) else T 0 h o (g + 1))) else T 0 h o (g + 1))) else T 0 h o (g + 1)))) : am_X L xs (d + 1) 114 0 [some (.ref 0), some (.int x1), some (.int x2), some (.int x3), some (.int x4), some (.int x5), some (.int x6), none, none] [] am_C0 h o g Q T := by
  refine xo_2 rfl rfl ?_
  refine xo_1 rfl rfl ?_
  refine cl_50_0 rfl hd_114 rfl ?_
  refine xo_1 rfl rfl ?_
  refine xo_10lt rfl (am_sp ?_ ?_ H)
  · intro hc1 H
    refine xo_45 rfl (Nat.le_of_ble_eq_true rfl) ?_
    exact H
  · intro hc1 H
    refine xo_1 rfl rfl ?_
    refine xo_2 rfl rfl ?_
    refine xo_13r rfl cr_0_1 ?_
    refine xo_13 rfl cf_3_1 ?_
    refine xo_11lt rfl (am_sp ?_ ?_ H)
    · intro hc2 H
      refine xr_44 rfl ?_
      refine xo_2 rfl rfl ?_
      refine xo_1 rfl rfl ?_
      refine cl_45_0 rfl hd_114 rfl ?_
      refine xo_1 rfl rfl ?_
      refine xo_10lt rfl (am_sp ?_ ?_ H)
      · intro hc3 H
        refine xo_45 rfl (Nat.le_of_ble_eq_true rfl) ?_
        exact H
      · intro hc3 H
        refine xo_1 rfl rfl ?_
        refine xo_2 rfl rfl ?_
        refine xo_13r rfl cr_0_1 ?_
        refine xo_13 rfl cf_3_0 ?_
        refine xo_11lt rfl (am_sp ?_ ?_ H)
        · intro hc4 H
          refine xr_44 rfl ?_
          refine xo_2 rfl rfl ?_
          refine xo_1 rfl rfl ?_
          refine cl_57_0 rfl hd_114 rfl ?_
          refine xo_1 rfl rfl ?_
          refine xo_10lt rfl (am_sp ?_ ?_ H)
          · intro hc5 H
            refine xo_45 rfl (Nat.le_of_ble_eq_true rfl) ?_
            exact H
          · intro hc5 H
            refine xo_1 rfl rfl ?_
            refine xo_2 rfl rfl ?_
            refine xo_13r rfl cr_0_1 ?_
            refine xo_13 rfl cf_3_2 ?_
            refine xo_11lt rfl (am_sp ?_ ?_ H)
            · intro hc6 H
              refine xr_44 rfl ?_
              refine xo_2 rfl rfl ?_
              refine xo_1 rfl rfl ?_
              refine cl_58_0 rfl hd_114 rfl ?_
              refine xo_1 rfl rfl ?_
              refine xo_10lt rfl (am_sp ?_ ?_ H)
              · intro hc7 H
                refine xo_45 rfl (Nat.le_of_ble_eq_true rfl) ?_
                exact H
              · intro hc7 H
                refine xo_1 rfl rfl ?_
                refine xo_0 rfl ?_
                refine xo_11le rfl (am_sp ?_ ?_ H)
                · intro hc8 H
                  refine xo_45 rfl (Nat.le_of_ble_eq_true rfl) ?_
                  exact H
                · intro hc8 H
                  refine xr_44 rfl ?_
                  refine xo_2 rfl rfl ?_
                  refine xo_1 rfl rfl ?_
                  refine cl_75_0 rfl hd_114 rfl ?_
                  refine xo_1 rfl rfl ?_
                  refine xo_10lt rfl (am_sp ?_ ?_ H)
                  · intro hc9 H
                    refine xo_45 rfl (Nat.le_of_ble_eq_true rfl) ?_
                    exact H
                  · intro hc9 H
                    refine xo_1 rfl rfl ?_
                    refine xo_2 rfl rfl ?_
                    refine xo_13r rfl cr_0_3 ?_
                    refine xo_13 rfl cf_23_0 ?_
                    refine xo_11le rfl (am_sp ?_ ?_ H)
                    · intro hc10 H
                      refine xo_45 rfl (Nat.le_of_ble_eq_true rfl) ?_
                      exact H
                    · intro hc10 H
                      refine xr_44 rfl ?_
                      refine xo_2 rfl rfl ?_
                      refine xo_1 rfl rfl ?_
                      refine cl_46_0 rfl hd_114 rfl ?_
                      exact H
            · intro hc6 H
              refine xo_45 rfl (Nat.le_of_ble_eq_true rfl) ?_
              exact H
        · intro hc4 H
          refine xo_45 rfl (Nat.le_of_ble_eq_true rfl) ?_
          exact H
    · intro hc2 H
      refine xo_45 rfl (Nat.le_of_ble_eq_true rfl) ?_
      exact H
theorem sm_114_32 {x1 : Int32} {x2 : Int32} {x3 : Int32} {x4 : Int32} {x5 : Int32} {x6 : Int32} {q7 : Option Value} {q8 : Option Value} (hq7 : am_nl q7 = true) (hq8 : am_nl q8 = true) (H : (if x5 < (h 61 0) then Q (some (.int (-1))) h o g else (if (h 61 1) < x5 then Q (some (.int (-1))) h o g else (am_ix x2 5 ∧ am_X L xs d 60 0 [some (.ref 3), some (.int x3), some (.int x4), some (.int (h 7 x2.toNatClampNeg)), some (.int 0), none, none, none] [] am_C0 h o g (fun w h' o' g' => am_X L xs (d + 1) 114 62 [some (.ref 0), some (.int x1), some (.int x2), some (.int x3), some (.int x4), some (.int x5), some (.int x6), q7, q8] (w.toList ++ []) am_C0 h' o' g' Q T) T)))) : am_X L xs (d + 1) 114 32 [some (.ref 0), some (.int x1), some (.int x2), some (.int x3), some (.int x4), some (.int x5), some (.int x6), q7, q8] [.ref 61] am_C0 h o g Q T := by
  refine xo_1 rfl rfl ?_
  refine cl_115_61 rfl hd_114 rfl ?_
  refine xo_1 rfl rfl ?_
  refine xo_2 rfl rfl ?_
  refine xo_13 rfl cf_61_0 ?_
  refine xo_11lt rfl (am_sp ?_ ?_ H)
  · intro hc1 H
    refine xo_0 rfl ?_
    refine xr_42 rfl rfl ?_
    refine xo_10n rfl (by decide) ?_
    refine xo_0 rfl ?_
    refine xo_41 rfl ?_
    exact H
  · intro hc1 H
    refine xo_1 rfl rfl ?_
    refine xo_2 rfl rfl ?_
    refine xo_13 rfl cf_61_1 ?_
    refine xo_11gt rfl (am_sp ?_ ?_ H)
    · intro hc2 H
      refine xo_0 rfl ?_
      refine xr_42 rfl rfl ?_
      refine xo_10n rfl (by decide) ?_
      refine xo_0 rfl ?_
      refine xo_41 rfl ?_
      exact H
    · intro hc2 H
      refine xo_0 rfl ?_
      refine xo_12 rfl ?_
      refine xr_42 rfl rfl ?_
      refine xo_10 rfl (by decide) ?_
      refine xo_2 rfl rfl ?_
      refine xo_13r rfl cr_0_1 ?_
      refine xo_1 rfl rfl ?_
      refine xo_1 rfl rfl ?_
      refine xo_2 rfl rfl ?_
      refine xo_13r rfl cr_0_1 ?_
      refine xo_13r rfl cr_3_6 ?_
      refine xo_1 rfl rfl ?_
      obtain ⟨hg3, H⟩ := H
      refine xo_17 rfl ca_7 hg3 ?_
      refine xo_0 rfl ?_
      refine cl_60_3 rfl hd_114 rfl ?_
      exact H
theorem sm_114_62 {x1 : Int32} {x2 : Int32} {q3 : Option Value} {q4 : Option Value} {x5 : Int32} {x6 : Int32} {q7 : Option Value} {q8 : Option Value} {z0 : Int32} (hq3 : am_nl q3 = true) (hq4 : am_nl q4 = true) (hq7 : am_nl q7 = true) (hq8 : am_nl q8 = true) (H : (am_ix x2 5 ∧ (if z0 < (x5 + ((h 8 x2.toNatClampNeg) * ((h 30 x2.toNatClampNeg) / 10))) then am_X L xs d 80 0 [some (.ref 0), some (.int x1), some (.int x2), some (.int x6), some (.int (-1))] [] am_C0 h o g (fun w h' o' g' => am_X L xs (d + 1) 114 100 [some (.ref 0), some (.int x1), some (.int x2), q3, q4, some (.int x5), some (.int x6), some (.int z0), q8] (w.toList ++ []) am_C0 h' o' g' Q T) T else Q (some (.int 0)) h o g))) : am_X L xs (d + 1) 114 62 [some (.ref 0), some (.int x1), some (.int x2), q3, q4, some (.int x5), some (.int x6), q7, q8] [.int z0] am_C0 h o g Q T := by
  refine xo_4 (lv' := [some (.ref 0), some (.int x1), some (.int x2), q3, q4, some (.int x5), some (.int x6), some (.int z0), q8]) rfl rfl rfl ?_
  refine xo_1 rfl rfl ?_
  refine xo_2 rfl rfl ?_
  refine xo_13r rfl cr_0_1 ?_
  refine xo_1 rfl rfl ?_
  refine xo_2 rfl rfl ?_
  refine xo_13r rfl cr_0_3 ?_
  refine xo_13r rfl cr_23_7 ?_
  refine xo_1 rfl rfl ?_
  obtain ⟨hg1, H⟩ := H
  refine xo_17 rfl ca_30 hg1 ?_
  refine cl_82_3 rfl hd_114 rfl ?_
  refine xo_2 rfl rfl ?_
  refine xo_13r rfl cr_3_7 ?_
  refine xo_1 rfl rfl ?_
  refine xo_17 rfl ca_8 hg1 ?_
  refine xo_1 rfl rfl ?_
  refine xo_0 rfl ?_
  refine xo_7d rfl (by decide) ?_
  refine xo_7 rfl rfl ?_
  refine xr_41 rfl ?_
  refine xo_7 rfl rfl ?_
  refine xo_1 rfl rfl ?_
  refine xo_11gt rfl (am_sp ?_ ?_ H)
  · intro hc2 H
    refine xo_2 rfl rfl ?_
    refine xo_1 rfl rfl ?_
    refine xo_1 rfl rfl ?_
    refine xo_1 rfl rfl ?_
    refine xo_0 rfl ?_
    refine cl_80_0 rfl hd_114 rfl ?_
    exact H
  · intro hc2 H
    refine xo_0 rfl ?_
    refine xo_41 rfl ?_
    exact H
theorem sm_114_100 {x1 : Int32} {x2 : Int32} {q3 : Option Value} {q4 : Option Value} {x5 : Int32} {x6 : Int32} {x7 : Int32} {q8 : Option Value} {z0 : Int32} (hq3 : am_nl q3 = true) (hq4 : am_nl q4 = true) (hq8 : am_nl q8 = true) (H : (if x7 < z0 then Q (some (.int 1)) h o g else am_X L xs d 116 0 [some (.ref 0), some (.int x1), some (.int x2), some (.int x5), some (.int x6), some (.int x7), none, none, none] [] am_C0 h o g (fun w h' o' g' => am_X L xs (d + 1) 114 119 [some (.ref 0), some (.int x1), some (.int x2), q3, q4, some (.int x5), some (.int x6), some (.int x7), q8] (w.toList ++ []) am_C0 h' o' g' Q T) T)) : am_X L xs (d + 1) 114 100 [some (.ref 0), some (.int x1), some (.int x2), q3, q4, some (.int x5), some (.int x6), some (.int x7), q8] [.int z0] am_C0 h o g Q T := by
  refine xo_1 rfl rfl ?_
  refine xo_11le rfl (am_sp ?_ ?_ H)
  · intro hc1 H
    refine xo_0 rfl ?_
    refine xo_41 rfl ?_
    exact H
  · intro hc1 H
    refine xo_2 rfl rfl ?_
    refine xo_1 rfl rfl ?_
    refine xo_1 rfl rfl ?_
    refine xo_1 rfl rfl ?_
    refine xo_1 rfl rfl ?_
    refine xo_1 rfl rfl ?_
    refine cl_116_0 rfl hd_114 rfl ?_
    exact H
theorem sm_114_119 {q0 : Option Value} {q1 : Option Value} {q2 : Option Value} {q3 : Option Value} {q4 : Option Value} {q5 : Option Value} {q6 : Option Value} {q7 : Option Value} {q8 : Option Value} {z0 : Int32} (hq0 : am_nl q0 = true) (hq1 : am_nl q1 = true) (hq2 : am_nl q2 = true) (hq3 : am_nl q3 = true) (hq4 : am_nl q4 = true) (hq5 : am_nl q5 = true) (hq6 : am_nl q6 = true) (hq7 : am_nl q7 = true) (hq8 : am_nl q8 = true) (H : (if z0 = (-1) then Q (some (.int 2)) h o g else Q (some (.int (10 + z0))) h o g)) : am_X L xs d 114 119 [q0, q1, q2, q3, q4, q5, q6, q7, q8] [.int z0] am_C0 h o g Q T := by
  refine xo_4 (lv' := [q0, q1, q2, q3, q4, q5, q6, q7, some (.int z0)]) rfl hq7 rfl ?_
  refine xo_1 rfl rfl ?_
  refine xo_0 rfl ?_
  refine xo_11ne rfl (am_sp ?_ ?_ H)
  · intro hc1 H
    refine xo_0 rfl ?_
    refine xo_12 rfl ?_
    refine xo_41 rfl ?_
    exact H
  · intro hc1 H
    refine xo_0 rfl ?_
    refine xo_1 rfl rfl ?_
    refine xo_7 rfl rfl ?_
    refine xo_41 rfl ?_
    exact H
theorem sm_116 {x1 : Int32} {x2 : Int32} {x3 : Int32} {x4 : Int32} {x5 : Int32} (H : am_X L xs d 116 6 [some (.ref 0), some (.int x1), some (.int x2), some (.int x3), some (.int x4), some (.int x5), some (.int (-1)), some (.int 0), none] [] am_C0 h o g Q T) : am_X L xs d 116 0 [some (.ref 0), some (.int x1), some (.int x2), some (.int x3), some (.int x4), some (.int x5), none, none, none] [] am_C0 h o g Q T := by
  refine xo_0 rfl ?_
  refine xo_4 (lv' := [some (.ref 0), some (.int x1), some (.int x2), some (.int x3), some (.int x4), some (.int x5), some (.int (-1)), none, none]) rfl rfl rfl ?_
  refine xo_0 rfl ?_
  refine xo_4 (lv' := [some (.ref 0), some (.int x1), some (.int x2), some (.int x3), some (.int x4), some (.int x5), some (.int (-1)), some (.int 0), none]) rfl rfl rfl ?_
  exact H
theorem sm_116_6 {x1 : Int32} {x2 : Int32} {x3 : Int32} {x4 : Int32} {x5 : Int32} {x6 : Int32} {x7 : Int32} {q8 : Option Value} (hq8 : am_nl q8 = true) (H : (if x7 < x4 then (am_ix x7 80 ∧ (if (h 25 x7.toNatClampNeg) = (-1) then am_X L xs (d + 2) 116 6 [some (.ref 0), some (.int x1), some (.int x2), some (.int x3), some (.int x4), some (.int x5), some (.int x6), some (.int (x7 + 1)), q8] [] am_C0 h o g Q T else (if (h 24 x7.toNatClampNeg) = x1 then (if (h 26 x7.toNatClampNeg) = x2 then (if x3 < (h 27 x7.toNatClampNeg) then (if (h 28 x7.toNatClampNeg) = 0 then am_X L xs (d + 2) 116 6 [some (.ref 0), some (.int x1), some (.int x2), some (.int x3), some (.int x4), some (.int x5), some (.int x6), some (.int (x7 + 1)), q8] [] am_C0 h o g Q T else am_X L xs (d + 1) 80 0 [some (.ref 0), some (.int x1), some (.int x2), some (.int x4), some (.int x7)] [] am_C0 h o g (fun w h' o' g' => am_X L xs (d + 2) 116 38 [some (.ref 0), some (.int x1), some (.int x2), some (.int x3), some (.int x4), some (.int x5), some (.int x6), some (.int x7), q8] (w.toList ++ []) am_C0 h' o' g' Q T) T) else (if (h 28 x7.toNatClampNeg) = 1 then am_X L xs (d + 2) 116 6 [some (.ref 0), some (.int x1), some (.int x2), some (.int x3), some (.int x4), some (.int x5), some (.int x6), some (.int (x7 + 1)), q8] [] am_C0 h o g Q T else am_X L xs (d + 1) 80 0 [some (.ref 0), some (.int x1), some (.int x2), some (.int x4), some (.int x7)] [] am_C0 h o g (fun w h' o' g' => am_X L xs (d + 2) 116 38 [some (.ref 0), some (.int x1), some (.int x2), some (.int x3), some (.int x4), some (.int x5), some (.int x6), some (.int x7), q8] (w.toList ++ []) am_C0 h' o' g' Q T) T)) else am_X L xs (d + 2) 116 6 [some (.ref 0), some (.int x1), some (.int x2), some (.int x3), some (.int x4), some (.int x5), some (.int x6), some (.int (x7 + 1)), q8] [] am_C0 h o g Q T) else am_X L xs (d + 2) 116 6 [some (.ref 0), some (.int x1), some (.int x2), some (.int x3), some (.int x4), some (.int x5), some (.int x6), some (.int (x7 + 1)), q8] [] am_C0 h o g Q T))) else Q (some (.int x6)) h o g)) : am_X L xs (d + 2) 116 6 [some (.ref 0), some (.int x1), some (.int x2), some (.int x3), some (.int x4), some (.int x5), some (.int x6), some (.int x7), q8] [] am_C0 h o g Q T := by
  refine xo_1 rfl rfl ?_
  refine xo_1 rfl rfl ?_
  refine xo_11ge rfl (am_sp ?_ ?_ H)
  · intro hc1 H
    refine xo_2 rfl rfl ?_
    refine xo_13r rfl cr_0_3 ?_
    refine xo_1 rfl rfl ?_
    refine xo_1 rfl rfl ?_
    refine xo_1 rfl rfl ?_
    refine xo_1 rfl rfl ?_
    refine cl_117_23 rfl hd_116 rfl ?_
    refine xo_2 rfl rfl ?_
    refine xo_1 rfl rfl ?_
    refine xo_1 rfl rfl ?_
    refine cl_54_23 rfl hd_117 rfl ?_
    refine xo_2 rfl rfl ?_
    refine xo_13r rfl cr_23_2 ?_
    refine xo_1 rfl rfl ?_
    obtain ⟨hg2, H⟩ := H
    refine xo_17 rfl ca_25 hg2 ?_
    refine xo_0 rfl ?_
    refine xo_11eq rfl (am_sp ?_ ?_ H)
    · intro hc3 H
      refine xo_0 rfl ?_
      refine xr_42 rfl rfl ?_
      refine xo_10 rfl (by decide) ?_
      refine xo_0 rfl ?_
      refine xr_42 rfl rfl ?_
      refine xo_10 rfl (by decide) ?_
      refine xo_9 (z := (x7 + 1)) (lv' := [some (.ref 0), some (.int x1), some (.int x2), some (.int x3), some (.int x4), some (.int x5), some (.int x6), some (.int (x7 + 1)), q8]) rfl rfl rfl rfl rfl ?_
      refine xo_12 rfl ?_
      exact H
    · intro hc3 H
      refine xo_2 rfl rfl ?_
      refine xo_13r rfl cr_23_1 ?_
      refine xo_1 rfl rfl ?_
      refine xo_17 rfl ca_24 hg2 ?_
      refine xo_1 rfl rfl ?_
      refine xo_11ne rfl (am_sp ?_ ?_ H)
      · intro hc4 H
        refine xo_0 rfl ?_
        refine xo_12 rfl ?_
        refine xr_42 rfl rfl ?_
        refine xo_10n rfl (by decide) ?_
        refine xo_2 rfl rfl ?_
        refine xo_13r rfl cr_23_3 ?_
        refine xo_1 rfl rfl ?_
        refine xo_17 rfl ca_26 hg2 ?_
        refine xo_1 rfl rfl ?_
        refine xo_11ne rfl (am_sp ?_ ?_ H)
        · intro hc5 H
          refine xo_2 rfl rfl ?_
          refine xo_13r rfl cr_23_5 ?_
          refine xo_1 rfl rfl ?_
          refine xo_18b rfl ca_28 hg2 ?_
          refine xo_1 rfl rfl ?_
          refine xo_2 rfl rfl ?_
          refine xo_13r rfl cr_23_4 ?_
          refine xo_1 rfl rfl ?_
          refine xo_17 rfl ca_27 hg2 ?_
          refine xo_11lt rfl (am_sp ?_ ?_ H)
          · intro hc6 H
            refine xo_0 rfl ?_
            refine xo_11eq rfl (am_sp ?_ ?_ H)
            · intro hc7 H
              refine xo_0 rfl ?_
              refine xr_42 rfl rfl ?_
              refine xo_10 rfl (by decide) ?_
              refine xo_9 (z := (x7 + 1)) (lv' := [some (.ref 0), some (.int x1), some (.int x2), some (.int x3), some (.int x4), some (.int x5), some (.int x6), some (.int (x7 + 1)), q8]) rfl rfl rfl rfl rfl ?_
              refine xo_12 rfl ?_
              exact H
            · intro hc7 H
              refine xo_0 rfl ?_
              refine xo_12 rfl ?_
              refine xr_42 rfl rfl ?_
              refine xo_10n rfl (by decide) ?_
              refine xo_2 rfl rfl ?_
              refine xo_1 rfl rfl ?_
              refine xo_1 rfl rfl ?_
              refine xo_1 rfl rfl ?_
              refine xo_1 rfl rfl ?_
              refine cl_80_0 rfl hd_116 rfl ?_
              exact H
          · intro hc6 H
            refine xo_0 rfl ?_
            refine xo_12 rfl ?_
            refine xo_11eq rfl (am_sp ?_ ?_ H)
            · intro hc8 H
              refine xo_0 rfl ?_
              refine xr_42 rfl rfl ?_
              refine xo_10 rfl (by decide) ?_
              refine xo_9 (z := (x7 + 1)) (lv' := [some (.ref 0), some (.int x1), some (.int x2), some (.int x3), some (.int x4), some (.int x5), some (.int x6), some (.int (x7 + 1)), q8]) rfl rfl rfl rfl rfl ?_
              refine xo_12 rfl ?_
              exact H
            · intro hc8 H
              refine xo_0 rfl ?_
              refine xo_12 rfl ?_
              refine xr_42 rfl rfl ?_
              refine xo_10n rfl (by decide) ?_
              refine xo_2 rfl rfl ?_
              refine xo_1 rfl rfl ?_
              refine xo_1 rfl rfl ?_
              refine xo_1 rfl rfl ?_
              refine xo_1 rfl rfl ?_
              refine cl_80_0 rfl hd_116 rfl ?_
              exact H
        · intro hc5 H
          refine xo_0 rfl ?_
          refine xr_42 rfl rfl ?_
          refine xo_10 rfl (by decide) ?_
          refine xo_9 (z := (x7 + 1)) (lv' := [some (.ref 0), some (.int x1), some (.int x2), some (.int x3), some (.int x4), some (.int x5), some (.int x6), some (.int (x7 + 1)), q8]) rfl rfl rfl rfl rfl ?_
          refine xo_12 rfl ?_
          exact H
      · intro hc4 H
        refine xo_0 rfl ?_
        refine xr_42 rfl rfl ?_
        refine xo_10 rfl (by decide) ?_
        refine xo_0 rfl ?_
        refine xr_42 rfl rfl ?_
        refine xo_10 rfl (by decide) ?_
        refine xo_9 (z := (x7 + 1)) (lv' := [some (.ref 0), some (.int x1), some (.int x2), some (.int x3), some (.int x4), some (.int x5), some (.int x6), some (.int (x7 + 1)), q8]) rfl rfl rfl rfl rfl ?_
        refine xo_12 rfl ?_
        exact H
  · intro hc1 H
    refine xo_1 rfl rfl ?_
    refine xo_41 rfl ?_
    exact H
theorem sm_116_38 {x1 : Int32} {x2 : Int32} {x3 : Int32} {x4 : Int32} {x5 : Int32} {x6 : Int32} {x7 : Int32} {q8 : Option Value} {z0 : Int32} (hq8 : am_nl q8 = true) (H : (if x5 < z0 then (am_ix x7 80 ∧ (if x6 = (-1) then am_X L xs d 116 6 [some (.ref 0), some (.int x1), some (.int x2), some (.int x3), some (.int x4), some (.int x5), some (.int (h 25 x7.toNatClampNeg)), some (.int (x7 + 1)), some (.int (h 25 x7.toNatClampNeg))] [] am_C0 h o g Q T else (if (h 25 x7.toNatClampNeg) < x6 then am_X L xs d 116 6 [some (.ref 0), some (.int x1), some (.int x2), some (.int x3), some (.int x4), some (.int x5), some (.int (h 25 x7.toNatClampNeg)), some (.int (x7 + 1)), some (.int (h 25 x7.toNatClampNeg))] [] am_C0 h o g Q T else am_X L xs d 116 6 [some (.ref 0), some (.int x1), some (.int x2), some (.int x3), some (.int x4), some (.int x5), some (.int x6), some (.int (x7 + 1)), some (.int (h 25 x7.toNatClampNeg))] [] am_C0 h o g Q T))) else am_X L xs d 116 6 [some (.ref 0), some (.int x1), some (.int x2), some (.int x3), some (.int x4), some (.int x5), some (.int x6), some (.int (x7 + 1)), q8] [] am_C0 h o g Q T)) : am_X L xs d 116 38 [some (.ref 0), some (.int x1), some (.int x2), some (.int x3), some (.int x4), some (.int x5), some (.int x6), some (.int x7), q8] [.int z0] am_C0 h o g Q T := by
  refine xo_1 rfl rfl ?_
  refine xo_11le rfl (am_sp ?_ ?_ H)
  · intro hc1 H
    refine xo_2 rfl rfl ?_
    refine xo_13r rfl cr_0_3 ?_
    refine xo_13r rfl cr_23_2 ?_
    refine xo_1 rfl rfl ?_
    obtain ⟨hg2, H⟩ := H
    refine xo_17 rfl ca_25 hg2 ?_
    refine xo_4 (lv' := [some (.ref 0), some (.int x1), some (.int x2), some (.int x3), some (.int x4), some (.int x5), some (.int x6), some (.int x7), some (.int (h 25 x7.toNatClampNeg))]) rfl rfl rfl ?_
    refine xo_1 rfl rfl ?_
    refine xo_0 rfl ?_
    refine xo_11eq rfl (am_sp ?_ ?_ H)
    · intro hc3 H
      refine xo_1 rfl rfl ?_
      refine xo_4 (lv' := [some (.ref 0), some (.int x1), some (.int x2), some (.int x3), some (.int x4), some (.int x5), some (.int (h 25 x7.toNatClampNeg)), some (.int x7), some (.int (h 25 x7.toNatClampNeg))]) rfl rfl rfl ?_
      refine xo_9 (z := (x7 + 1)) (lv' := [some (.ref 0), some (.int x1), some (.int x2), some (.int x3), some (.int x4), some (.int x5), some (.int (h 25 x7.toNatClampNeg)), some (.int (x7 + 1)), some (.int (h 25 x7.toNatClampNeg))]) rfl rfl rfl rfl rfl ?_
      refine xo_12 rfl ?_
      exact H
    · intro hc3 H
      refine xo_1 rfl rfl ?_
      refine xo_1 rfl rfl ?_
      refine xo_11ge rfl (am_sp ?_ ?_ H)
      · intro hc4 H
        refine xo_1 rfl rfl ?_
        refine xo_4 (lv' := [some (.ref 0), some (.int x1), some (.int x2), some (.int x3), some (.int x4), some (.int x5), some (.int (h 25 x7.toNatClampNeg)), some (.int x7), some (.int (h 25 x7.toNatClampNeg))]) rfl rfl rfl ?_
        refine xo_9 (z := (x7 + 1)) (lv' := [some (.ref 0), some (.int x1), some (.int x2), some (.int x3), some (.int x4), some (.int x5), some (.int (h 25 x7.toNatClampNeg)), some (.int (x7 + 1)), some (.int (h 25 x7.toNatClampNeg))]) rfl rfl rfl rfl rfl ?_
        refine xo_12 rfl ?_
        exact H
      · intro hc4 H
        refine xo_9 (z := (x7 + 1)) (lv' := [some (.ref 0), some (.int x1), some (.int x2), some (.int x3), some (.int x4), some (.int x5), some (.int x6), some (.int (x7 + 1)), some (.int (h 25 x7.toNatClampNeg))]) rfl rfl rfl rfl rfl ?_
        refine xo_12 rfl ?_
        exact H
  · intro hc1 H
    refine xo_9 (z := (x7 + 1)) (lv' := [some (.ref 0), some (.int x1), some (.int x2), some (.int x3), some (.int x4), some (.int x5), some (.int x6), some (.int (x7 + 1)), q8]) rfl rfl rfl rfl rfl ?_
    refine xo_12 rfl ?_
    exact H
theorem wr_118 {x1 : Int32} {x2 : Int32} {x3 : Int32} (H : am_X L xs d 119 0 [some (.ref 0), some (.int x1), some (.int x2), some (.int x3)] [] am_C0 h o g (fun w h' o' g' => ∃ y, w = some (.int y) ∧ (if y = 0 then Q (some (.int 0)) h' (am_setL o' 108 0 (Int64.ofNat 0)) g' else Q (some (.int 0)) h' (am_setL o' 108 0 (Int64.ofNat 1)) g')) (fun E h' o' g' => if E = 0 then Q (some (.int 1)) h' o' g' else T E h' o' g')) : am_X L xs (d + 1) 118 0 [some (.ref 0), some (.int x1), some (.int x2), some (.int x3), some (.ref 108), none] [] am_C0 h o g Q T := by
  refine xo_2 rfl rfl ?_
  refine xo_0 rfl ?_
  refine xo_2 rfl rfl ?_
  refine xo_1 rfl rfl ?_
  refine xo_1 rfl rfl ?_
  refine xo_1 rfl rfl ?_
  refine ch_119 rfl rfl (am_X.mono H ?_ ?_)
  · rintro w h o g ⟨y, rfl, H⟩
    show am_X L xs (d + 1) 118 10 [some (.ref 0), some (.int x1), some (.int x2), some (.int x3), some (.ref 108), none] [.int y, .int 0, .ref 108] am_C0 h o g Q T
    refine xo_10eq rfl (am_sp ?_ ?_ H)
    · intro hc1 H
      refine xo_31 rfl ?_
      refine xo_26 rfl ca_108 (am_ix.lit rfl) ?_
      refine xo_12 rfl ?_
      refine xo_0 rfl ?_
      refine xo_41 rfl ?_
      exact H
    · intro hc1 H
      refine xo_31 rfl ?_
      refine xo_12 rfl ?_
      refine xo_26 rfl ca_108 (am_ix.lit rfl) ?_
      refine xo_12 rfl ?_
      refine xo_0 rfl ?_
      refine xo_41 rfl ?_
      exact H
  · intro E h o g H
    by_cases hE0 : E = 0
    · rw [if_pos hE0] at H
      subst hE0
      show am_X L xs (d + 1) 118 24 [some (.ref 0), some (.int x1), some (.int x2), some (.int x3), some (.ref 108), none] [] am_C0 h o g Q T
      refine xo_0 rfl ?_
      refine xo_41 rfl ?_
      exact H
    · rw [if_neg hE0] at H
      have e : am_hand (am_hd 118) 7 E = none := by
        show am_hand [(0, 19, 0, 24, 5)] 7 E = none
        simp only [am_hand]
        rw [if_neg (fun q => hE0 q.2.2.symm)]
      show (match am_hand (am_hd 118) 7 E with | none => T E h o g | some (pc', j) => am_X L xs (d + 1) 118 pc' (am_st1 [some (.ref 0), some (.int x1), some (.int x2), some (.int x3), some (.ref 108), none] j none) [] am_C0 h o g Q T)
      rw [e]
      exact H
theorem sm_119 {x1 : Int32} {x2 : Int32} {x3 : Int32} (H : (if x1 < 0 then T 0 h o (g + 1) else (if x1 < (h 3 0) then (if x2 < 0 then Q (some (.int 0)) (am_set h 33 2 ((h 33 2) + 1)) o g else (if x3 < x2 then Q (some (.int 0)) (am_set h 33 2 ((h 33 2) + 1)) o g else (if 60 < x3 then Q (some (.int 0)) (am_set h 33 2 ((h 33 2) + 1)) o g else (am_ix x1 5 ∧ Q (some (.int 1)) (am_set (am_set h 31 x1.toNatClampNeg x2) 32 x1.toNatClampNeg x3) o g)))) else T 0 h o (g + 1)))) : am_X L xs (d + 1) 119 0 [some (.ref 0), some (.int x1), some (.int x2), some (.int x3)] [] am_C0 h o g Q T := by
  refine xo_2 rfl rfl ?_
  refine xo_1 rfl rfl ?_
  refine cl_120_0 rfl hd_119 rfl ?_
  refine xo_1 rfl rfl ?_
  refine xo_10lt rfl (am_sp ?_ ?_ H)
  · intro hc1 H
    refine xo_45 rfl (Nat.le_of_ble_eq_true rfl) ?_
    exact H
  · intro hc1 H
    refine xo_1 rfl rfl ?_
    refine xo_2 rfl rfl ?_
    refine xo_13r rfl cr_0_1 ?_
    refine xo_13 rfl cf_3_0 ?_
    refine xo_11lt rfl (am_sp ?_ ?_ H)
    · intro hc2 H
      refine xr_44 rfl ?_
      refine xo_1 rfl rfl ?_
      refine xo_10lt rfl (am_sp ?_ ?_ H)
      · intro hc3 H
        refine xo_2 rfl rfl ?_
        refine xo_13r rfl cr_0_3 ?_
        refine xo_0 rfl ?_
        refine cl_38_23 rfl hd_119 rfl ?_
        refine xo_2 rfl rfl ?_
        refine xo_13r rfl cr_23_10 ?_
        refine xo_1 rfl rfl ?_
        refine xo_29 rfl ⟨rfl, rfl⟩ ?_
        refine xo_17 rfl ca_33 (am_ix.lit rfl) ?_
        refine xo_0 rfl ?_
        refine xo_7 rfl rfl ?_
        refine xo_22 rfl ca_33 (am_ix.lit rfl) ?_
        refine xo_0 rfl ?_
        refine xr_41 rfl ?_
        refine xo_30 rfl rfl ?_
        refine xo_0 rfl ?_
        refine xo_42 rfl rfl ?_
        exact H
      · intro hc3 H
        refine xo_1 rfl rfl ?_
        refine xo_1 rfl rfl ?_
        refine xo_11gt rfl (am_sp ?_ ?_ H)
        · intro hc4 H
          refine xo_2 rfl rfl ?_
          refine xo_13r rfl cr_0_3 ?_
          refine xo_0 rfl ?_
          refine cl_38_23 rfl hd_119 rfl ?_
          refine xo_2 rfl rfl ?_
          refine xo_13r rfl cr_23_10 ?_
          refine xo_1 rfl rfl ?_
          refine xo_29 rfl ⟨rfl, rfl⟩ ?_
          refine xo_17 rfl ca_33 (am_ix.lit rfl) ?_
          refine xo_0 rfl ?_
          refine xo_7 rfl rfl ?_
          refine xo_22 rfl ca_33 (am_ix.lit rfl) ?_
          refine xo_0 rfl ?_
          refine xr_41 rfl ?_
          refine xo_30 rfl rfl ?_
          refine xo_0 rfl ?_
          refine xo_42 rfl rfl ?_
          exact H
        · intro hc4 H
          refine xo_1 rfl rfl ?_
          refine xo_0 rfl ?_
          refine xo_11le rfl (am_sp ?_ ?_ H)
          · intro hc5 H
            refine xo_2 rfl rfl ?_
            refine xo_13r rfl cr_0_3 ?_
            refine xo_0 rfl ?_
            refine cl_38_23 rfl hd_119 rfl ?_
            refine xo_2 rfl rfl ?_
            refine xo_13r rfl cr_23_10 ?_
            refine xo_1 rfl rfl ?_
            refine xo_29 rfl ⟨rfl, rfl⟩ ?_
            refine xo_17 rfl ca_33 (am_ix.lit rfl) ?_
            refine xo_0 rfl ?_
            refine xo_7 rfl rfl ?_
            refine xo_22 rfl ca_33 (am_ix.lit rfl) ?_
            refine xo_0 rfl ?_
            refine xr_41 rfl ?_
            refine xo_30 rfl rfl ?_
            refine xo_0 rfl ?_
            refine xo_42 rfl rfl ?_
            exact H
          · intro hc5 H
            refine xo_2 rfl rfl ?_
            refine xo_13r rfl cr_0_3 ?_
            refine xo_13r rfl cr_23_8 ?_
            refine xo_1 rfl rfl ?_
            refine xo_1 rfl rfl ?_
            obtain ⟨hg6, H⟩ := H
            refine xo_22 rfl ca_31 hg6 ?_
            refine xo_2 rfl rfl ?_
            refine xo_13r rfl cr_0_3 ?_
            refine xo_13r rfl cr_23_9 ?_
            refine xo_1 rfl rfl ?_
            refine xo_1 rfl rfl ?_
            refine xo_22 rfl ca_32 hg6 ?_
            refine xo_0 rfl ?_
            refine xo_42 rfl rfl ?_
            exact H
    · intro hc2 H
      refine xo_45 rfl (Nat.le_of_ble_eq_true rfl) ?_
      exact H
theorem wr_121 {x1 : Int32} (H : am_X L xs d 122 0 [some (.ref 0), some (.int x1), none, none] [] am_C0 h o g (fun w h' o' g' => ∃ y, w = some (.int y) ∧ Q (some (.int 0)) h' (am_setL o' 108 0 y.toInt64) g') (fun E h' o' g' => if E = 0 then Q (some (.int 1)) h' o' g' else T E h' o' g')) : am_X L xs (d + 1) 121 0 [some (.ref 0), some (.int x1), some (.ref 108), none] [] am_C0 h o g Q T := by
  refine xo_2 rfl rfl ?_
  refine xo_0 rfl ?_
  refine xo_2 rfl rfl ?_
  refine xo_1 rfl rfl ?_
  refine ch_122 rfl rfl (am_X.mono H ?_ ?_)
  · rintro w h o g ⟨y, rfl, H⟩
    show am_X L xs (d + 1) 121 7 [some (.ref 0), some (.int x1), some (.ref 108), none] [.int y, .int 0, .ref 108] am_C0 h o g Q T
    refine xo_32 rfl ?_
    refine xo_26 rfl ca_108 (am_ix.lit rfl) ?_
    refine xo_12 rfl ?_
    refine xo_0 rfl ?_
    refine xo_41 rfl ?_
    exact H
  · intro E h o g H
    by_cases hE0 : E = 0
    · rw [if_pos hE0] at H
      subst hE0
      show am_X L xs (d + 1) 121 13 [some (.ref 0), some (.int x1), some (.ref 108), none] [] am_C0 h o g Q T
      refine xo_0 rfl ?_
      refine xo_41 rfl ?_
      exact H
    · rw [if_neg hE0] at H
      have e : am_hand (am_hd 121) 4 E = none := by
        show am_hand [(0, 9, 0, 13, 3)] 4 E = none
        simp only [am_hand]
        rw [if_neg (fun q => hE0 q.2.2.symm)]
      show (match am_hand (am_hd 121) 4 E with | none => T E h o g | some (pc', j) => am_X L xs (d + 1) 121 pc' (am_st1 [some (.ref 0), some (.int x1), some (.ref 108), none] j none) [] am_C0 h o g Q T)
      rw [e]
      exact H
theorem sm_122 {x1 : Int32} (H : (if x1 = (-1) then am_X L xs (d + 1) 122 26 [some (.ref 0), some (.int x1), some (.int 0), none] [] am_C0 (am_set (am_set (am_set (am_set (am_set (am_set h 59 0 (h 3 0)) 60 0 0) 60 1 0) 60 2 0) 60 3 0) 60 4 0) o g Q T else (if x1 < 0 then T 0 h o (g + 1) else (if x1 < (h 3 0) then am_X L xs (d + 1) 122 26 [some (.ref 0), some (.int x1), some (.int 0), none] [] am_C0 (am_set (am_set (am_set (am_set (am_set (am_set h 59 0 (h 3 0)) 60 0 0) 60 1 0) 60 2 0) 60 3 0) 60 4 0) o g Q T else T 0 h o (g + 1))))) : am_X L xs (d + 1) 122 0 [some (.ref 0), some (.int x1), none, none] [] am_C0 h o g Q T := by
  refine xo_1 rfl rfl ?_
  refine xo_0 rfl ?_
  refine xo_11eq rfl (am_sp ?_ ?_ H)
  · intro hc1 H
    refine xo_2 rfl rfl ?_
    refine xo_13r rfl cr_0_7 ?_
    refine xo_2 rfl rfl ?_
    refine xo_13r rfl cr_0_1 ?_
    refine xo_13 rfl cf_3_0 ?_
    refine cl_123_59 rfl hd_122 rfl ?_
    refine xo_2 rfl rfl ?_
    refine xo_1 rfl rfl ?_
    refine xo_14 rfl cf_59_0 ?_
    refine xo_0 rfl ?_
    refine xo_4 (lv' := [some (.ref 59), some (.int (h 3 0)), some (.int 0)]) rfl rfl rfl ?_
    refine xo_1 rfl rfl ?_
    refine xo_0 rfl ?_
    refine xo_11n rfl (by decide) ?_
    refine xo_2 rfl rfl ?_
    refine xo_13r rfl cr_59_1 ?_
    refine xo_1 rfl rfl ?_
    refine xo_0 rfl ?_
    refine xo_22 rfl ca_60 (am_ix.lit rfl) ?_
    refine xo_9 (z := 1) (lv' := [some (.ref 59), some (.int (h 3 0)), some (.int 1)]) rfl rfl (by decide) rfl rfl ?_
    refine xo_12 rfl ?_
    refine xo_1 rfl rfl ?_
    refine xo_0 rfl ?_
    refine xo_11n rfl (by decide) ?_
    refine xo_2 rfl rfl ?_
    refine xo_13r rfl cr_59_1 ?_
    refine xo_1 rfl rfl ?_
    refine xo_0 rfl ?_
    refine xo_22 rfl ca_60 (am_ix.lit rfl) ?_
    refine xo_9 (z := 2) (lv' := [some (.ref 59), some (.int (h 3 0)), some (.int 2)]) rfl rfl (by decide) rfl rfl ?_
    refine xo_12 rfl ?_
    refine xo_1 rfl rfl ?_
    refine xo_0 rfl ?_
    refine xo_11n rfl (by decide) ?_
    refine xo_2 rfl rfl ?_
    refine xo_13r rfl cr_59_1 ?_
    refine xo_1 rfl rfl ?_
    refine xo_0 rfl ?_
    refine xo_22 rfl ca_60 (am_ix.lit rfl) ?_
    refine xo_9 (z := 3) (lv' := [some (.ref 59), some (.int (h 3 0)), some (.int 3)]) rfl rfl (by decide) rfl rfl ?_
    refine xo_12 rfl ?_
    refine xo_1 rfl rfl ?_
    refine xo_0 rfl ?_
    refine xo_11n rfl (by decide) ?_
    refine xo_2 rfl rfl ?_
    refine xo_13r rfl cr_59_1 ?_
    refine xo_1 rfl rfl ?_
    refine xo_0 rfl ?_
    refine xo_22 rfl ca_60 (am_ix.lit rfl) ?_
    refine xo_9 (z := 4) (lv' := [some (.ref 59), some (.int (h 3 0)), some (.int 4)]) rfl rfl (by decide) rfl rfl ?_
    refine xo_12 rfl ?_
    refine xo_1 rfl rfl ?_
    refine xo_0 rfl ?_
    refine xo_11n rfl (by decide) ?_
    refine xo_2 rfl rfl ?_
    refine xo_13r rfl cr_59_1 ?_
    refine xo_1 rfl rfl ?_
    refine xo_0 rfl ?_
    refine xo_22 rfl ca_60 (am_ix.lit rfl) ?_
    refine xo_9 (z := 5) (lv' := [some (.ref 59), some (.int (h 3 0)), some (.int 5)]) rfl rfl (by decide) rfl rfl ?_
    refine xo_12 rfl ?_
    refine xo_1 rfl rfl ?_
    refine xo_0 rfl ?_
    refine xo_11 rfl (by decide) ?_
    refine xr_44 rfl ?_
    refine xo_0 rfl ?_
    refine xo_4 (lv' := [some (.ref 0), some (.int x1), some (.int 0), none]) rfl rfl rfl ?_
    exact H
  · intro hc1 H
    refine xo_2 rfl rfl ?_
    refine xo_1 rfl rfl ?_
    refine cl_120_0 rfl hd_122 rfl ?_
    refine xo_1 rfl rfl ?_
    refine xo_10lt rfl (am_sp ?_ ?_ H)
    · intro hc2 H
      refine xo_45 rfl (Nat.le_of_ble_eq_true rfl) ?_
      exact H
    · intro hc2 H
      refine xo_1 rfl rfl ?_
      refine xo_2 rfl rfl ?_
      refine xo_13r rfl cr_0_1 ?_
      refine xo_13 rfl cf_3_0 ?_
      refine xo_11lt rfl (am_sp ?_ ?_ H)
      · intro hc3 H
        refine xr_44 rfl ?_
        refine xo_2 rfl rfl ?_
        refine xo_13r rfl cr_0_7 ?_
        refine xo_2 rfl rfl ?_
        refine xo_13r rfl cr_0_1 ?_
        refine xo_13 rfl cf_3_0 ?_
        refine cl_123_59 rfl hd_122 rfl ?_
        refine xo_2 rfl rfl ?_
        refine xo_1 rfl rfl ?_
        refine xo_14 rfl cf_59_0 ?_
        refine xo_0 rfl ?_
        refine xo_4 (lv' := [some (.ref 59), some (.int (h 3 0)), some (.int 0)]) rfl rfl rfl ?_
        refine xo_1 rfl rfl ?_
        refine xo_0 rfl ?_
        refine xo_11n rfl (by decide) ?_
        refine xo_2 rfl rfl ?_
        refine xo_13r rfl cr_59_1 ?_
        refine xo_1 rfl rfl ?_
        refine xo_0 rfl ?_
        refine xo_22 rfl ca_60 (am_ix.lit rfl) ?_
        refine xo_9 (z := 1) (lv' := [some (.ref 59), some (.int (h 3 0)), some (.int 1)]) rfl rfl (by decide) rfl rfl ?_
        refine xo_12 rfl ?_
        refine xo_1 rfl rfl ?_
        refine xo_0 rfl ?_
        refine xo_11n rfl (by decide) ?_
        refine xo_2 rfl rfl ?_
        refine xo_13r rfl cr_59_1 ?_
        refine xo_1 rfl rfl ?_
        refine xo_0 rfl ?_
        refine xo_22 rfl ca_60 (am_ix.lit rfl) ?_
        refine xo_9 (z := 2) (lv' := [some (.ref 59), some (.int (h 3 0)), some (.int 2)]) rfl rfl (by decide) rfl rfl ?_
        refine xo_12 rfl ?_
        refine xo_1 rfl rfl ?_
        refine xo_0 rfl ?_
        refine xo_11n rfl (by decide) ?_
        refine xo_2 rfl rfl ?_
        refine xo_13r rfl cr_59_1 ?_
        refine xo_1 rfl rfl ?_
        refine xo_0 rfl ?_
        refine xo_22 rfl ca_60 (am_ix.lit rfl) ?_
        refine xo_9 (z := 3) (lv' := [some (.ref 59), some (.int (h 3 0)), some (.int 3)]) rfl rfl (by decide) rfl rfl ?_
        refine xo_12 rfl ?_
        refine xo_1 rfl rfl ?_
        refine xo_0 rfl ?_
        refine xo_11n rfl (by decide) ?_
        refine xo_2 rfl rfl ?_
        refine xo_13r rfl cr_59_1 ?_
        refine xo_1 rfl rfl ?_
        refine xo_0 rfl ?_
        refine xo_22 rfl ca_60 (am_ix.lit rfl) ?_
        refine xo_9 (z := 4) (lv' := [some (.ref 59), some (.int (h 3 0)), some (.int 4)]) rfl rfl (by decide) rfl rfl ?_
        refine xo_12 rfl ?_
        refine xo_1 rfl rfl ?_
        refine xo_0 rfl ?_
        refine xo_11n rfl (by decide) ?_
        refine xo_2 rfl rfl ?_
        refine xo_13r rfl cr_59_1 ?_
        refine xo_1 rfl rfl ?_
        refine xo_0 rfl ?_
        refine xo_22 rfl ca_60 (am_ix.lit rfl) ?_
        refine xo_9 (z := 5) (lv' := [some (.ref 59), some (.int (h 3 0)), some (.int 5)]) rfl rfl (by decide) rfl rfl ?_
        refine xo_12 rfl ?_
        refine xo_1 rfl rfl ?_
        refine xo_0 rfl ?_
        refine xo_11 rfl (by decide) ?_
        refine xr_44 rfl ?_
        refine xo_0 rfl ?_
        refine xo_4 (lv' := [some (.ref 0), some (.int x1), some (.int 0), none]) rfl rfl rfl ?_
        exact H
      · intro hc3 H
        refine xo_45 rfl (Nat.le_of_ble_eq_true rfl) ?_
        exact H
theorem sm_122_26 {x1 : Int32} {x2 : Int32} {q3 : Option Value} (hq3 : am_nl q3 = true) (H : (if x2 < (h 3 0) then am_X L xs (d + 1) 122 39 [some (.ref 0), some (.int x1), some (.int x2), some (.int 0)] [] am_C0 h o g Q T else (if x1 = (-1) then am_X L xs d 126 0 [some (.ref 59)] [] am_C0 h o g (fun w h' o' g' => am_X L xs (d + 1) 122 112 [some (.ref 0), some (.int x1), some (.int x2), q3] (w.toList ++ []) am_C0 h' o' g' Q T) T else am_X L xs d 128 0 [some (.ref 59), some (.int x1), none, none, none] [] am_C0 h o g (fun w h' o' g' => am_X L xs (d + 1) 122 123 [some (.ref 0), some (.int x1), some (.int x2), q3] (w.toList ++ []) am_C0 h' o' g' Q T) T))) : am_X L xs (d + 1) 122 26 [some (.ref 0), some (.int x1), some (.int x2), q3] [] am_C0 h o g Q T := by
  refine xo_1 rfl rfl ?_
  refine xo_2 rfl rfl ?_
  refine xo_13r rfl cr_0_1 ?_
  refine xo_13 rfl cf_3_0 ?_
  refine xo_11ge rfl (am_sp ?_ ?_ H)
  · intro hc1 H
    refine xo_0 rfl ?_
    refine xo_4 (lv' := [some (.ref 0), some (.int x1), some (.int x2), some (.int 0)]) rfl rfl rfl ?_
    exact H
  · intro hc1 H
    refine xo_1 rfl rfl ?_
    refine xo_0 rfl ?_
    refine xo_11ne rfl (am_sp ?_ ?_ H)
    · intro hc2 H
      refine xo_2 rfl rfl ?_
      refine xo_13r rfl cr_0_7 ?_
      refine cl_126_59 rfl hd_122 rfl ?_
      exact H
    · intro hc2 H
      refine xo_2 rfl rfl ?_
      refine xo_13r rfl cr_0_7 ?_
      refine xo_1 rfl rfl ?_
      refine cl_128_59 rfl hd_122 rfl ?_
      exact H
theorem sm_122_39 {x1 : Int32} {x2 : Int32} {x3 : Int32} (H : (if x3 < (h 3 0) then am_X L xs d 46 0 [some (.ref 0), some (.int x3)] [] am_C0 h o g (fun w h' o' g' => am_X L xs (d + 1) 122 55 [some (.ref 0), some (.int x1), some (.int x2), some (.int x3)] (w.toList ++ []) am_C0 h' o' g' Q T) T else am_X L xs (d + 1) 122 26 [some (.ref 0), some (.int x1), some (.int (x2 + 1)), some (.int x3)] [] am_C0 h o g Q T)) : am_X L xs (d + 1) 122 39 [some (.ref 0), some (.int x1), some (.int x2), some (.int x3)] [] am_C0 h o g Q T := by
  refine xo_1 rfl rfl ?_
  refine xo_2 rfl rfl ?_
  refine xo_13r rfl cr_0_1 ?_
  refine xo_13 rfl cf_3_0 ?_
  refine xo_11ge rfl (am_sp ?_ ?_ H)
  · intro hc1 H
    refine xo_2 rfl rfl ?_
    refine xo_1 rfl rfl ?_
    refine cl_46_0 rfl hd_122 rfl ?_
    exact H
  · intro hc1 H
    refine xo_9 (z := (x2 + 1)) (lv' := [some (.ref 0), some (.int x1), some (.int (x2 + 1)), some (.int x3)]) rfl rfl rfl rfl rfl ?_
    refine xo_12 rfl ?_
    exact H
theorem sm_122_112 {q0 : Option Value} {q1 : Option Value} {q2 : Option Value} {q3 : Option Value} {z0 : Int32} (hq0 : am_nl q0 = true) (hq1 : am_nl q1 = true) (hq2 : am_nl q2 = true) (hq3 : am_nl q3 = true) (H : Q (some (.int z0)) h o g) : am_X L xs d 122 112 [q0, q1, q2, q3] [.int z0] am_C0 h o g Q T := by
  refine xo_12 rfl ?_
  refine xo_41 rfl ?_
  exact H
theorem sm_122_123 {q0 : Option Value} {q1 : Option Value} {q2 : Option Value} {q3 : Option Value} {z0 : Int32} (hq0 : am_nl q0 = true) (hq1 : am_nl q1 = true) (hq2 : am_nl q2 = true) (hq3 : am_nl q3 = true) (H : Q (some (.int z0)) h o g) : am_X L xs d 122 123 [q0, q1, q2, q3] [.int z0] am_C0 h o g Q T := by
  refine xo_41 rfl ?_
  exact H
theorem sm_122_55 {x1 : Int32} {x2 : Int32} {x3 : Int32} (H : (am_ix x2 5 ∧ (if (if (h 32 x2.toNatClampNeg) < (h 61 1) then (h 32 x2.toNatClampNeg) else (h 61 1)) < (if (h 61 0) < (h 31 x2.toNatClampNeg) then (h 31 x2.toNatClampNeg) else (h 61 0)) then am_X L xs (d + 1) 122 39 [some (.ref 0), some (.int x1), some (.int x2), some (.int (x3 + 1))] [] am_C0 h o g Q T else am_X L xs (d + 1) 122 39 [some (.ref 0), some (.int x1), some (.int x2), some (.int (x3 + 1))] [] am_C0 (am_set h 60 x2.toNatClampNeg ((h 60 x2.toNatClampNeg) ||| (1 <<< (x3 &&& 31)))) o g Q T))) : am_X L xs (d + 1) 122 55 [some (.ref 0), some (.int x1), some (.int x2), some (.int x3)] [.ref 61] am_C0 h o g Q T := by
  refine xo_2 rfl rfl ?_
  refine xo_13r rfl cr_0_3 ?_
  refine xo_13r rfl cr_23_8 ?_
  refine xo_1 rfl rfl ?_
  obtain ⟨hg1, H⟩ := H
  refine xo_17 rfl ca_31 hg1 ?_
  refine xo_2 rfl rfl ?_
  refine xo_13r rfl cr_0_3 ?_
  refine xo_13r rfl cr_23_9 ?_
  refine xo_1 rfl rfl ?_
  refine xo_17 rfl ca_32 hg1 ?_
  refine cl_124_61 rfl hd_122 rfl ?_
  refine xo_2 rfl rfl ?_
  refine xo_13 rfl cf_61_0 ?_
  refine xo_1 rfl rfl ?_
  refine xo_47x rfl (Nat.le_of_ble_eq_true rfl) ?_
  refine xo_2 rfl rfl ?_
  refine xo_13 rfl cf_61_1 ?_
  refine xo_1 rfl rfl ?_
  refine xo_47n rfl (Nat.le_of_ble_eq_true rfl) ?_
  refine xo_11gt rfl (am_sp ?_ ?_ H)
  · intro hc2 H
    refine xo_0 rfl ?_
    refine xr_42 rfl rfl ?_
    refine xo_10 rfl (by decide) ?_
    refine xo_9 (z := (x3 + 1)) (lv' := [some (.ref 0), some (.int x1), some (.int x2), some (.int (x3 + 1))]) rfl rfl rfl rfl rfl ?_
    refine xo_12 rfl ?_
    exact H
  · intro hc2 H
    refine xo_0 rfl ?_
    refine xo_12 rfl ?_
    refine xr_42 rfl rfl ?_
    refine xo_10n rfl (by decide) ?_
    refine xo_2 rfl rfl ?_
    refine xo_13r rfl cr_0_7 ?_
    refine xo_1 rfl rfl ?_
    refine xo_1 rfl rfl ?_
    refine cl_125_59 rfl hd_122 rfl ?_
    refine xo_2 rfl rfl ?_
    refine xo_13r rfl cr_59_1 ?_
    refine xo_1 rfl rfl ?_
    refine xo_29 rfl ⟨rfl, rfl⟩ ?_
    refine xo_17 rfl ca_60 hg1 ?_
    refine xo_0 rfl ?_
    refine xo_1 rfl rfl ?_
    refine xo_7 rfl rfl ?_
    refine xo_7 rfl rfl ?_
    refine xo_22 rfl ca_60 hg1 ?_
    refine xr_44 rfl ?_
    refine xo_9 (z := (x3 + 1)) (lv' := [some (.ref 0), some (.int x1), some (.int x2), some (.int (x3 + 1))]) rfl rfl rfl rfl rfl ?_
    refine xo_12 rfl ?_
    exact H
theorem sm_126 (H : am_X L xs d 127 0 [some (.ref 59), some (.int 0), some (.int 0), none, none, none] [] am_C0 h o g (fun w h' o' g' => am_X L xs (d + 1) 126 6 [some (.ref 59)] (w.toList ++ []) am_C0 h' o' g' Q T) T) : am_X L xs (d + 1) 126 0 [some (.ref 59)] [] am_C0 h o g Q T := by
  refine xo_2 rfl rfl ?_
  refine xo_0 rfl ?_
  refine xo_0 rfl ?_
  refine cl_127_59 rfl hd_126 rfl ?_
  exact H
theorem sm_126_6 {q0 : Option Value} {z0 : Int32} (hq0 : am_nl q0 = true) (H : Q (some (.int z0)) h o g) : am_X L xs d 126 6 [q0] [.int z0] am_C0 h o g Q T := by
  refine xo_41 rfl ?_
  exact H
theorem sm_127 {x1 : Int32} {x2 : Int32} (H : (if x1 < (h 59 0) then am_X L xs d 127 15 [some (.ref 59), some (.int x1), some (.int x2), some (.int 0), some (.int 0), none] [] am_C0 h o g Q T else Q (some (.int 1)) h o g)) : am_X L xs d 127 0 [some (.ref 59), some (.int x1), some (.int x2), none, none, none] [] am_C0 h o g Q T := by
  refine xo_1 rfl rfl ?_
  refine xo_2 rfl rfl ?_
  refine xo_13 rfl cf_59_0 ?_
  refine xo_11lt rfl (am_sp ?_ ?_ H)
  · intro hc1 H
    refine xo_0 rfl ?_
    refine xo_4 (lv' := [some (.ref 59), some (.int x1), some (.int x2), some (.int 0), none, none]) rfl rfl rfl ?_
    refine xo_0 rfl ?_
    refine xo_4 (lv' := [some (.ref 59), some (.int x1), some (.int x2), some (.int 0), some (.int 0), none]) rfl rfl rfl ?_
    exact H
  · intro hc1 H
    refine xo_0 rfl ?_
    refine xo_41 rfl ?_
    exact H
theorem sm_127_15 {x1 : Int32} {x2 : Int32} {x3 : Int32} {x4 : Int32} {q5 : Option Value} (hq5 : am_nl q5 = true) (H : (if x4 < (h 59 0) then (am_ix x1 5 ∧ (if ((h 60 x1.toNatClampNeg) &&& (1 <<< (x4 &&& 31))) = 0 then am_X L xs (d + 1) 127 15 [some (.ref 59), some (.int x1), some (.int x2), some (.int x3), some (.int (x4 + 1)), some (.int (1 <<< (x4 &&& 31)))] [] am_C0 h o g Q T else (if (x2 &&& (1 <<< (x4 &&& 31))) = 0 then am_X L xs d 127 0 [some (.ref 59), some (.int (x1 + 1)), some (.int (x2 ||| (1 <<< (x4 &&& 31)))), none, none, none] [] am_C0 h o g (fun w h' o' g' => am_X L xs (d + 1) 127 61 [some (.ref 59), some (.int x1), some (.int x2), some (.int x3), some (.int x4), some (.int (1 <<< (x4 &&& 31)))] (w.toList ++ [.int x3]) am_C0 h' o' g' Q T) T else am_X L xs (d + 1) 127 15 [some (.ref 59), some (.int x1), some (.int x2), some (.int x3), some (.int (x4 + 1)), some (.int (1 <<< (x4 &&& 31)))] [] am_C0 h o g Q T))) else Q (some (.int x3)) h o g)) : am_X L xs (d + 1) 127 15 [some (.ref 59), some (.int x1), some (.int x2), some (.int x3), some (.int x4), q5] [] am_C0 h o g Q T := by
  refine xo_1 rfl rfl ?_
  refine xo_2 rfl rfl ?_
  refine xo_13 rfl cf_59_0 ?_
  refine xo_11ge rfl (am_sp ?_ ?_ H)
  · intro hc1 H
    refine xo_0 rfl ?_
    refine xo_1 rfl rfl ?_
    refine xo_7 rfl rfl ?_
    refine xo_4 (lv' := [some (.ref 59), some (.int x1), some (.int x2), some (.int x3), some (.int x4), some (.int (1 <<< (x4 &&& 31)))]) rfl rfl rfl ?_
    refine xo_2 rfl rfl ?_
    refine xo_13r rfl cr_59_1 ?_
    refine xo_1 rfl rfl ?_
    obtain ⟨hg2, H⟩ := H
    refine xo_17 rfl ca_60 hg2 ?_
    refine xo_1 rfl rfl ?_
    refine xo_7 rfl rfl ?_
    refine xo_10eq rfl (am_sp ?_ ?_ H)
    · intro hc3 H
      refine xo_9 (z := (x4 + 1)) (lv' := [some (.ref 59), some (.int x1), some (.int x2), some (.int x3), some (.int (x4 + 1)), some (.int (1 <<< (x4 &&& 31)))]) rfl rfl rfl rfl rfl ?_
      refine xo_12 rfl ?_
      exact H
    · intro hc3 H
      refine xo_1 rfl rfl ?_
      refine xo_1 rfl rfl ?_
      refine xo_7 rfl rfl ?_
      refine xo_10ne rfl (am_sp ?_ ?_ H)
      · intro hc4 H
        refine xo_1 rfl rfl ?_
        refine xo_2 rfl rfl ?_
        refine xo_1 rfl rfl ?_
        refine xo_0 rfl ?_
        refine xo_7 rfl rfl ?_
        refine xo_1 rfl rfl ?_
        refine xo_1 rfl rfl ?_
        refine xo_7 rfl rfl ?_
        refine cl_127_59 rfl hd_127 rfl ?_
        exact H
      · intro hc4 H
        refine xo_9 (z := (x4 + 1)) (lv' := [some (.ref 59), some (.int x1), some (.int x2), some (.int x3), some (.int (x4 + 1)), some (.int (1 <<< (x4 &&& 31)))]) rfl rfl rfl rfl rfl ?_
        refine xo_12 rfl ?_
        exact H
  · intro hc1 H
    refine xo_1 rfl rfl ?_
    refine xo_41 rfl ?_
    exact H
theorem sm_127_61 {x1 : Int32} {x2 : Int32} {q3 : Option Value} {x4 : Int32} {q5 : Option Value} {z0 : Int32} {z1 : Int32} (hq3 : am_nl q3 = true) (hq5 : am_nl q5 = true) (H : am_X L xs d 127 15 [some (.ref 59), some (.int x1), some (.int x2), some (.int (z0 + z1)), some (.int (x4 + 1)), q5] [] am_C0 h o g Q T) : am_X L xs d 127 61 [some (.ref 59), some (.int x1), some (.int x2), q3, some (.int x4), q5] [.int z1, .int z0] am_C0 h o g Q T := by
  refine xo_7 rfl rfl ?_
  refine xo_4 (lv' := [some (.ref 59), some (.int x1), some (.int x2), some (.int (z0 + z1)), some (.int x4), q5]) rfl rfl rfl ?_
  refine xo_9 (z := (x4 + 1)) (lv' := [some (.ref 59), some (.int x1), some (.int x2), some (.int (z0 + z1)), some (.int (x4 + 1)), q5]) rfl rfl rfl rfl rfl ?_
  refine xo_12 rfl ?_
  exact H
theorem sm_128 {x1 : Int32} (H : (am_ix x1 5 ∧ am_X L xs d 128 12 [some (.ref 59), some (.int x1), some (.int (h 60 x1.toNatClampNeg)), some (.int 0), some (.int 0)] [] am_C0 h o g Q T)) : am_X L xs d 128 0 [some (.ref 59), some (.int x1), none, none, none] [] am_C0 h o g Q T := by
  refine xo_2 rfl rfl ?_
  refine xo_13r rfl cr_59_1 ?_
  refine xo_1 rfl rfl ?_
  obtain ⟨hg1, H⟩ := H
  refine xo_17 rfl ca_60 hg1 ?_
  refine xo_4 (lv' := [some (.ref 59), some (.int x1), some (.int (h 60 x1.toNatClampNeg)), none, none]) rfl rfl rfl ?_
  refine xo_0 rfl ?_
  refine xo_4 (lv' := [some (.ref 59), some (.int x1), some (.int (h 60 x1.toNatClampNeg)), some (.int 0), none]) rfl rfl rfl ?_
  refine xo_0 rfl ?_
  refine xo_4 (lv' := [some (.ref 59), some (.int x1), some (.int (h 60 x1.toNatClampNeg)), some (.int 0), some (.int 0)]) rfl rfl rfl ?_
  exact H
theorem sm_128_12 {x1 : Int32} {x2 : Int32} {x3 : Int32} {x4 : Int32} (H : (if x4 < (h 59 0) then (am_ix x1 5 ∧ am_X L xs d 127 0 [some (.ref 59), some (.int 0), some (.int 0), none, none, none] [] am_C0 (am_set h 60 x1.toNatClampNeg (x2 &&& (1 <<< (x4 &&& 31)))) o g (fun w h' o' g' => am_X L xs (d + 1) 128 39 [some (.ref 59), some (.int x1), some (.int x2), some (.int x3), some (.int x4)] (w.toList ++ []) am_C0 h' o' g' Q T) T) else (am_ix x1 5 ∧ Q (some (.int x3)) (am_set h 60 x1.toNatClampNeg x2) o g))) : am_X L xs (d + 1) 128 12 [some (.ref 59), some (.int x1), some (.int x2), some (.int x3), some (.int x4)] [] am_C0 h o g Q T := by
  refine xo_1 rfl rfl ?_
  refine xo_2 rfl rfl ?_
  refine xo_13 rfl cf_59_0 ?_
  refine xo_11ge rfl (am_sp ?_ ?_ H)
  · intro hc1 H
    refine xo_2 rfl rfl ?_
    refine xo_13r rfl cr_59_1 ?_
    refine xo_1 rfl rfl ?_
    refine xo_1 rfl rfl ?_
    refine xo_0 rfl ?_
    refine xo_1 rfl rfl ?_
    refine xo_7 rfl rfl ?_
    refine xo_7 rfl rfl ?_
    obtain ⟨hg2, H⟩ := H
    refine xo_22 rfl ca_60 hg2 ?_
    refine xo_2 rfl rfl ?_
    refine xo_0 rfl ?_
    refine xo_0 rfl ?_
    refine cl_127_59 rfl hd_128 rfl ?_
    exact H
  · intro hc1 H
    refine xo_2 rfl rfl ?_
    refine xo_13r rfl cr_59_1 ?_
    refine xo_1 rfl rfl ?_
    refine xo_1 rfl rfl ?_
    obtain ⟨hg3, H⟩ := H
    refine xo_22 rfl ca_60 hg3 ?_
    refine xo_1 rfl rfl ?_
    refine xo_41 rfl ?_
    exact H
theorem sm_128_39 {x1 : Int32} {x2 : Int32} {x3 : Int32} {x4 : Int32} {z0 : Int32} (H : (if 0 < z0 then am_X L xs d 128 12 [some (.ref 59), some (.int x1), some (.int x2), some (.int (x3 ||| (1 <<< (x4 &&& 31)))), some (.int (x4 + 1))] [] am_C0 h o g Q T else am_X L xs d 128 12 [some (.ref 59), some (.int x1), some (.int x2), some (.int x3), some (.int (x4 + 1))] [] am_C0 h o g Q T)) : am_X L xs d 128 39 [some (.ref 59), some (.int x1), some (.int x2), some (.int x3), some (.int x4)] [.int z0] am_C0 h o g Q T := by
  refine xo_10le rfl (am_sp ?_ ?_ H)
  · intro hc1 H
    refine xo_1 rfl rfl ?_
    refine xo_0 rfl ?_
    refine xo_1 rfl rfl ?_
    refine xo_7 rfl rfl ?_
    refine xo_7 rfl rfl ?_
    refine xo_4 (lv' := [some (.ref 59), some (.int x1), some (.int x2), some (.int (x3 ||| (1 <<< (x4 &&& 31)))), some (.int x4)]) rfl rfl rfl ?_
    refine xo_9 (z := (x4 + 1)) (lv' := [some (.ref 59), some (.int x1), some (.int x2), some (.int (x3 ||| (1 <<< (x4 &&& 31)))), some (.int (x4 + 1))]) rfl rfl rfl rfl rfl ?_
    refine xo_12 rfl ?_
    exact H
  · intro hc1 H
    refine xo_9 (z := (x4 + 1)) (lv' := [some (.ref 59), some (.int x1), some (.int x2), some (.int x3), some (.int (x4 + 1))]) rfl rfl rfl rfl rfl ?_
    refine xo_12 rfl ?_
    exact H
theorem sm_131 {x1 : Int32} {x2 : Int32} {x3 : Int32} {x4 : Int32} {x5 : Int32} (H : (if 500 < ((h 64 18) + 20) then Q (some (.int (-1))) (am_set h 64 3 0) o g else (am_ix (h 64 18) 500 ∧ (am_ix ((h 64 18) + 1) 500 ∧ (am_ix (((h 64 18) + 1) + 1) 500 ∧ (am_ix ((((h 64 18) + 1) + 1) + 1) 500 ∧ (am_ix (((((h 64 18) + 1) + 1) + 1) + 1) 500 ∧ (am_ix ((((((h 64 18) + 1) + 1) + 1) + 1) + 1) 500 ∧ (am_ix (((((((h 64 18) + 1) + 1) + 1) + 1) + 1) + 1) 500 ∧ (am_ix ((((((((h 64 18) + 1) + 1) + 1) + 1) + 1) + 1) + 1) 500 ∧ (am_ix (((((((((h 64 18) + 1) + 1) + 1) + 1) + 1) + 1) + 1) + 1) 500 ∧ (am_ix ((((((((((h 64 18) + 1) + 1) + 1) + 1) + 1) + 1) + 1) + 1) + 1) 500 ∧ (am_ix (((((((((((h 64 18) + 1) + 1) + 1) + 1) + 1) + 1) + 1) + 1) + 1) + 1) 500 ∧ (am_ix ((((((((((((h 64 18) + 1) + 1) + 1) + 1) + 1) + 1) + 1) + 1) + 1) + 1) + 1) 500 ∧ (am_ix (((((((((((((h 64 18) + 1) + 1) + 1) + 1) + 1) + 1) + 1) + 1) + 1) + 1) + 1) + 1) 500 ∧ (am_ix ((((((((((((((h 64 18) + 1) + 1) + 1) + 1) + 1) + 1) + 1) + 1) + 1) + 1) + 1) + 1) + 1) 500 ∧ (am_ix (((((((((((((((h 64 18) + 1) + 1) + 1) + 1) + 1) + 1) + 1) + 1) + 1) + 1) + 1) + 1) + 1) + 1) 500 ∧ (am_ix ((((((((((((((((h 64 18) + 1) + 1) + 1) + 1) + 1) + 1) + 1) + 1) + 1) + 1) + 1) + 1) + 1) + 1) + 1) 500 ∧ (am_ix (((((((((((((((((h 64 18) + 1) + 1) + 1) + 1) + 1) + 1) + 1) + 1) + 1) + 1) + 1) + 1) + 1) + 1) + 1) + 1) 500 ∧ (am_ix ((((((((((((((((((h 64 18) + 1) + 1) + 1) + 1) + 1) + 1) + 1) + 1) + 1) + 1) + 1) + 1) + 1) + 1) + 1) + 1) + 1) 500 ∧ (am_ix (((((((((((((((((((h 64 18) + 1) + 1) + 1) + 1) + 1) + 1) + 1) + 1) + 1) + 1) + 1) + 1) + 1) + 1) + 1) + 1) + 1) + 1) 500 ∧ (am_ix ((((((((((((((((((((h 64 18) + 1) + 1) + 1) + 1) + 1) + 1) + 1) + 1) + 1) + 1) + 1) + 1) + 1) + 1) + 1) + 1) + 1) + 1) + 1) 500 ∧ Q (some (.int (((((((((((((((((((((h 64 18) + 1) + 1) + 1) + 1) + 1) + 1) + 1) + 1) + 1) + 1) + 1) + 1) + 1) + 1) + 1) + 1) + 1) + 1) + 1) + 1))) (am_set (am_set (am_set (am_set (am_set (am_set (am_set (am_set (am_set (am_set (am_set (am_set (am_set (am_set (am_set (am_set (am_set (am_set (am_set (am_set (am_set (am_set (am_set (am_set (am_set (am_set (am_set (am_set (am_set (am_set (am_set (am_set (am_set (am_set (am_set (am_set (am_set (am_set (am_set (am_set (am_set h 64 3 0) 81 ((h 64 18).toNatClampNeg) ((x1 >>> (24 &&& 31)) &&& 255)) 64 18 ((h 64 18) + 1)) 81 (((h 64 18) + 1).toNatClampNeg) ((x1 >>> (16 &&& 31)) &&& 255)) 64 18 (((h 64 18) + 1) + 1)) 81 ((((h 64 18) + 1) + 1).toNatClampNeg) ((x1 >>> (8 &&& 31)) &&& 255)) 64 18 ((((h 64 18) + 1) + 1) + 1)) 81 (((((h 64 18) + 1) + 1) + 1).toNatClampNeg) ((x1 >>> (0 &&& 31)) &&& 255)) 64 18 (((((h 64 18) + 1) + 1) + 1) + 1)) 81 ((((((h 64 18) + 1) + 1) + 1) + 1).toNatClampNeg) ((x2 >>> (24 &&& 31)) &&& 255)) 64 18 ((((((h 64 18) + 1) + 1) + 1) + 1) + 1)) 81 (((((((h 64 18) + 1) + 1) + 1) + 1) + 1).toNatClampNeg) ((x2 >>> (16 &&& 31)) &&& 255)) 64 18 (((((((h 64 18) + 1) + 1) + 1) + 1) + 1) + 1)) 81 ((((((((h 64 18) + 1) + 1) + 1) + 1) + 1) + 1).toNatClampNeg) ((x2 >>> (8 &&& 31)) &&& 255)) 64 18 ((((((((h 64 18) + 1) + 1) + 1) + 1) + 1) + 1) + 1)) 81 (((((((((h 64 18) + 1) + 1) + 1) + 1) + 1) + 1) + 1).toNatClampNeg) ((x2 >>> (0 &&& 31)) &&& 255)) 64 18 (((((((((h 64 18) + 1) + 1) + 1) + 1) + 1) + 1) + 1) + 1)) 81 ((((((((((h 64 18) + 1) + 1) + 1) + 1) + 1) + 1) + 1) + 1).toNatClampNeg) ((x3 >>> (24 &&& 31)) &&& 255)) 64 18 ((((((((((h 64 18) + 1) + 1) + 1) + 1) + 1) + 1) + 1) + 1) + 1)) 81 (((((((((((h 64 18) + 1) + 1) + 1) + 1) + 1) + 1) + 1) + 1) + 1).toNatClampNeg) ((x3 >>> (16 &&& 31)) &&& 255)) 64 18 (((((((((((h 64 18) + 1) + 1) + 1) + 1) + 1) + 1) + 1) + 1) + 1) + 1)) 81 ((((((((((((h 64 18) + 1) + 1) + 1) + 1) + 1) + 1) + 1) + 1) + 1) + 1).toNatClampNeg) ((x3 >>> (8 &&& 31)) &&& 255)) 64 18 ((((((((((((h 64 18) + 1) + 1) + 1) + 1) + 1) + 1) + 1) + 1) + 1) + 1) + 1)) 81 (((((((((((((h 64 18) + 1) + 1) + 1) + 1) + 1) + 1) + 1) + 1) + 1) + 1) + 1).toNatClampNeg) ((x3 >>> (0 &&& 31)) &&& 255)) 64 18 (((((((((((((h 64 18) + 1) + 1) + 1) + 1) + 1) + 1) + 1) + 1) + 1) + 1) + 1) + 1)) 81 ((((((((((((((h 64 18) + 1) + 1) + 1) + 1) + 1) + 1) + 1) + 1) + 1) + 1) + 1) + 1).toNatClampNeg) ((x4 >>> (24 &&& 31)) &&& 255)) 64 18 ((((((((((((((h 64 18) + 1) + 1) + 1) + 1) + 1) + 1) + 1) + 1) + 1) + 1) + 1) + 1) + 1)) 81 (((((((((((((((h 64 18) + 1) + 1) + 1) + 1) + 1) + 1) + 1) + 1) + 1) + 1) + 1) + 1) + 1).toNatClampNeg) ((x4 >>> (16 &&& 31)) &&& 255)) 64 18 (((((((((((((((h 64 18) + 1) + 1) + 1) + 1) + 1) + 1) + 1) + 1) + 1) + 1) + 1) + 1) + 1) + 1)) 81 ((((((((((((((((h 64 18) + 1) + 1) + 1) + 1) + 1) + 1) + 1) + 1) + 1) + 1) + 1) + 1) + 1) + 1).toNatClampNeg) ((x4 >>> (8 &&& 31)) &&& 255)) 64 18 ((((((((((((((((h 64 18) + 1) + 1) + 1) + 1) + 1) + 1) + 1) + 1) + 1) + 1) + 1) + 1) + 1) + 1) + 1)) 81 (((((((((((((((((h 64 18) + 1) + 1) + 1) + 1) + 1) + 1) + 1) + 1) + 1) + 1) + 1) + 1) + 1) + 1) + 1).toNatClampNeg) ((x4 >>> (0 &&& 31)) &&& 255)) 64 18 (((((((((((((((((h 64 18) + 1) + 1) + 1) + 1) + 1) + 1) + 1) + 1) + 1) + 1) + 1) + 1) + 1) + 1) + 1) + 1)) 81 ((((((((((((((((((h 64 18) + 1) + 1) + 1) + 1) + 1) + 1) + 1) + 1) + 1) + 1) + 1) + 1) + 1) + 1) + 1) + 1).toNatClampNeg) ((x5 >>> (24 &&& 31)) &&& 255)) 64 18 ((((((((((((((((((h 64 18) + 1) + 1) + 1) + 1) + 1) + 1) + 1) + 1) + 1) + 1) + 1) + 1) + 1) + 1) + 1) + 1) + 1)) 81 (((((((((((((((((((h 64 18) + 1) + 1) + 1) + 1) + 1) + 1) + 1) + 1) + 1) + 1) + 1) + 1) + 1) + 1) + 1) + 1) + 1).toNatClampNeg) ((x5 >>> (16 &&& 31)) &&& 255)) 64 18 (((((((((((((((((((h 64 18) + 1) + 1) + 1) + 1) + 1) + 1) + 1) + 1) + 1) + 1) + 1) + 1) + 1) + 1) + 1) + 1) + 1) + 1)) 81 ((((((((((((((((((((h 64 18) + 1) + 1) + 1) + 1) + 1) + 1) + 1) + 1) + 1) + 1) + 1) + 1) + 1) + 1) + 1) + 1) + 1) + 1).toNatClampNeg) ((x5 >>> (8 &&& 31)) &&& 255)) 64 18 ((((((((((((((((((((h 64 18) + 1) + 1) + 1) + 1) + 1) + 1) + 1) + 1) + 1) + 1) + 1) + 1) + 1) + 1) + 1) + 1) + 1) + 1) + 1)) 81 (((((((((((((((((((((h 64 18) + 1) + 1) + 1) + 1) + 1) + 1) + 1) + 1) + 1) + 1) + 1) + 1) + 1) + 1) + 1) + 1) + 1) + 1) + 1).toNatClampNeg) ((x5 >>> (0 &&& 31)) &&& 255)) 64 18 (((((((((((((((((((((h 64 18) + 1) + 1) + 1) + 1) + 1) + 1) + 1) + 1) + 1) + 1) + 1) + 1) + 1) + 1) + 1) + 1) + 1) + 1) + 1) + 1)) o g)))))))))))))))))))))) : am_X L xs d 131 0 [some (.ref 64), some (.int x1), some (.int x2), some (.int x3), some (.int x4), some (.int x5), none, none] [] am_C0 h o g Q T := by
  refine xo_2 rfl rfl ?_
  refine xo_0 rfl ?_
  refine xo_14 rfl cf_64_3 ?_
  refine xo_2 rfl rfl ?_
  refine xo_13 rfl cf_64_18 ?_
  refine xo_0 rfl ?_
  refine xo_7 rfl rfl ?_
  refine xo_0 rfl ?_
  refine xo_11le rfl (am_sp ?_ ?_ H)
  · intro hc1 H
    refine xo_0 rfl ?_
    refine xo_41 rfl ?_
    exact H
  · intro hc1 H
    refine xo_0 rfl ?_
    refine xo_4 (lv' := [some (.ref 64), some (.int x1), some (.int x2), some (.int x3), some (.int x4), some (.int x5), some (.int 0), none]) rfl rfl rfl ?_
    refine xo_1 rfl rfl ?_
    refine xo_0 rfl ?_
    refine xo_11n rfl (by decide) ?_
    refine xo_1 rfl rfl ?_
    refine xo_0 rfl ?_
    refine xo_11n rfl (by decide) ?_
    refine xo_1 rfl rfl ?_
    refine xo_12 rfl ?_
    refine xo_4 (lv' := [some (.ref 64), some (.int x1), some (.int x2), some (.int x3), some (.int x4), some (.int x5), some (.int 0), some (.int x1)]) rfl rfl rfl ?_
    refine xo_2 rfl rfl ?_
    refine xo_13r rfl cr_64_17 ?_
    refine xo_2 rfl rfl ?_
    refine xo_13 rfl cf_64_18 ?_
    refine xo_1 rfl rfl ?_
    refine xo_0 rfl ?_
    refine xo_0 rfl ?_
    refine xo_1 rfl rfl ?_
    refine xo_0 rfl ?_
    refine xo_7 (z := 0) rfl (by decide) ?_
    refine xo_7 (z := 0) rfl (by decide) ?_
    refine xo_7 (z := 24) rfl (by decide) ?_
    refine xo_7 rfl rfl ?_
    refine xo_0 rfl ?_
    refine xo_7 rfl rfl ?_
    obtain ⟨hg2, H⟩ := H
    refine xo_22 rfl ca_81 hg2 ?_
    refine xo_2 rfl rfl ?_
    refine xo_28 rfl rfl ?_
    refine xo_13 rfl cf_64_18 ?_
    refine xo_0 rfl ?_
    refine xo_7 rfl rfl ?_
    refine xo_14 rfl cf_64_18 ?_
    refine xo_9 (z := 1) (lv' := [some (.ref 64), some (.int x1), some (.int x2), some (.int x3), some (.int x4), some (.int x5), some (.int 1), some (.int x1)]) rfl rfl (by decide) rfl rfl ?_
    refine xo_12 rfl ?_
    refine xo_1 rfl rfl ?_
    refine xo_0 rfl ?_
    refine xo_11n rfl (by decide) ?_
    refine xo_1 rfl rfl ?_
    refine xo_0 rfl ?_
    refine xo_11n rfl (by decide) ?_
    refine xo_1 rfl rfl ?_
    refine xo_12 rfl ?_
    refine xo_4 (lv' := [some (.ref 64), some (.int x1), some (.int x2), some (.int x3), some (.int x4), some (.int x5), some (.int 1), some (.int x1)]) rfl rfl rfl ?_
    refine xo_2 rfl rfl ?_
    refine xo_13r rfl cr_64_17 ?_
    refine xo_2 rfl rfl ?_
    refine xo_13 rfl cf_64_18 ?_
    refine xo_1 rfl rfl ?_
    refine xo_0 rfl ?_
    refine xo_0 rfl ?_
    refine xo_1 rfl rfl ?_
    refine xo_0 rfl ?_
    refine xo_7 (z := 1) rfl (by decide) ?_
    refine xo_7 (z := 8) rfl (by decide) ?_
    refine xo_7 (z := 16) rfl (by decide) ?_
    refine xo_7 rfl rfl ?_
    refine xo_0 rfl ?_
    refine xo_7 rfl rfl ?_
    obtain ⟨hg3, H⟩ := H
    refine xo_22 rfl ca_81 hg3 ?_
    refine xo_2 rfl rfl ?_
    refine xo_28 rfl rfl ?_
    refine xo_13 rfl cf_64_18 ?_
    refine xo_0 rfl ?_
    refine xo_7 rfl rfl ?_
    refine xo_14 rfl cf_64_18 ?_
    refine xo_9 (z := 2) (lv' := [some (.ref 64), some (.int x1), some (.int x2), some (.int x3), some (.int x4), some (.int x5), some (.int 2), some (.int x1)]) rfl rfl (by decide) rfl rfl ?_
    refine xo_12 rfl ?_
    refine xo_1 rfl rfl ?_
    refine xo_0 rfl ?_
    refine xo_11n rfl (by decide) ?_
    refine xo_1 rfl rfl ?_
    refine xo_0 rfl ?_
    refine xo_11n rfl (by decide) ?_
    refine xo_1 rfl rfl ?_
    refine xo_12 rfl ?_
    refine xo_4 (lv' := [some (.ref 64), some (.int x1), some (.int x2), some (.int x3), some (.int x4), some (.int x5), some (.int 2), some (.int x1)]) rfl rfl rfl ?_
    refine xo_2 rfl rfl ?_
    refine xo_13r rfl cr_64_17 ?_
    refine xo_2 rfl rfl ?_
    refine xo_13 rfl cf_64_18 ?_
    refine xo_1 rfl rfl ?_
    refine xo_0 rfl ?_
    refine xo_0 rfl ?_
    refine xo_1 rfl rfl ?_
    refine xo_0 rfl ?_
    refine xo_7 (z := 2) rfl (by decide) ?_
    refine xo_7 (z := 16) rfl (by decide) ?_
    refine xo_7 (z := 8) rfl (by decide) ?_
    refine xo_7 rfl rfl ?_
    refine xo_0 rfl ?_
    refine xo_7 rfl rfl ?_
    obtain ⟨hg4, H⟩ := H
    refine xo_22 rfl ca_81 hg4 ?_
    refine xo_2 rfl rfl ?_
    refine xo_28 rfl rfl ?_
    refine xo_13 rfl cf_64_18 ?_
    refine xo_0 rfl ?_
    refine xo_7 rfl rfl ?_
    refine xo_14 rfl cf_64_18 ?_
    refine xo_9 (z := 3) (lv' := [some (.ref 64), some (.int x1), some (.int x2), some (.int x3), some (.int x4), some (.int x5), some (.int 3), some (.int x1)]) rfl rfl (by decide) rfl rfl ?_
    refine xo_12 rfl ?_
    refine xo_1 rfl rfl ?_
    refine xo_0 rfl ?_
    refine xo_11n rfl (by decide) ?_
    refine xo_1 rfl rfl ?_
    refine xo_0 rfl ?_
    refine xo_11n rfl (by decide) ?_
    refine xo_1 rfl rfl ?_
    refine xo_12 rfl ?_
    refine xo_4 (lv' := [some (.ref 64), some (.int x1), some (.int x2), some (.int x3), some (.int x4), some (.int x5), some (.int 3), some (.int x1)]) rfl rfl rfl ?_
    refine xo_2 rfl rfl ?_
    refine xo_13r rfl cr_64_17 ?_
    refine xo_2 rfl rfl ?_
    refine xo_13 rfl cf_64_18 ?_
    refine xo_1 rfl rfl ?_
    refine xo_0 rfl ?_
    refine xo_0 rfl ?_
    refine xo_1 rfl rfl ?_
    refine xo_0 rfl ?_
    refine xo_7 (z := 3) rfl (by decide) ?_
    refine xo_7 (z := 24) rfl (by decide) ?_
    refine xo_7 (z := 0) rfl (by decide) ?_
    refine xo_7 rfl rfl ?_
    refine xo_0 rfl ?_
    refine xo_7 rfl rfl ?_
    obtain ⟨hg5, H⟩ := H
    refine xo_22 rfl ca_81 hg5 ?_
    refine xo_2 rfl rfl ?_
    refine xo_28 rfl rfl ?_
    refine xo_13 rfl cf_64_18 ?_
    refine xo_0 rfl ?_
    refine xo_7 rfl rfl ?_
    refine xo_14 rfl cf_64_18 ?_
    refine xo_9 (z := 4) (lv' := [some (.ref 64), some (.int x1), some (.int x2), some (.int x3), some (.int x4), some (.int x5), some (.int 4), some (.int x1)]) rfl rfl (by decide) rfl rfl ?_
    refine xo_12 rfl ?_
    refine xo_1 rfl rfl ?_
    refine xo_0 rfl ?_
    refine xo_11n rfl (by decide) ?_
    refine xo_1 rfl rfl ?_
    refine xo_0 rfl ?_
    refine xo_11 rfl (by decide) ?_
    refine xo_1 rfl rfl ?_
    refine xo_0 rfl ?_
    refine xo_11n rfl (by decide) ?_
    refine xo_1 rfl rfl ?_
    refine xo_12 rfl ?_
    refine xo_4 (lv' := [some (.ref 64), some (.int x1), some (.int x2), some (.int x3), some (.int x4), some (.int x5), some (.int 4), some (.int x2)]) rfl rfl rfl ?_
    refine xo_2 rfl rfl ?_
    refine xo_13r rfl cr_64_17 ?_
    refine xo_2 rfl rfl ?_
    refine xo_13 rfl cf_64_18 ?_
    refine xo_1 rfl rfl ?_
    refine xo_0 rfl ?_
    refine xo_0 rfl ?_
    refine xo_1 rfl rfl ?_
    refine xo_0 rfl ?_
    refine xo_7 (z := 0) rfl (by decide) ?_
    refine xo_7 (z := 0) rfl (by decide) ?_
    refine xo_7 (z := 24) rfl (by decide) ?_
    refine xo_7 rfl rfl ?_
    refine xo_0 rfl ?_
    refine xo_7 rfl rfl ?_
    obtain ⟨hg6, H⟩ := H
    refine xo_22 rfl ca_81 hg6 ?_
    refine xo_2 rfl rfl ?_
    refine xo_28 rfl rfl ?_
    refine xo_13 rfl cf_64_18 ?_
    refine xo_0 rfl ?_
    refine xo_7 rfl rfl ?_
    refine xo_14 rfl cf_64_18 ?_
    refine xo_9 (z := 5) (lv' := [some (.ref 64), some (.int x1), some (.int x2), some (.int x3), some (.int x4), some (.int x5), some (.int 5), some (.int x2)]) rfl rfl (by decide) rfl rfl ?_
    refine xo_12 rfl ?_
    refine xo_1 rfl rfl ?_
    refine xo_0 rfl ?_
    refine xo_11n rfl (by decide) ?_
    refine xo_1 rfl rfl ?_
    refine xo_0 rfl ?_
    refine xo_11 rfl (by decide) ?_
    refine xo_1 rfl rfl ?_
    refine xo_0 rfl ?_
    refine xo_11n rfl (by decide) ?_
    refine xo_1 rfl rfl ?_
    refine xo_12 rfl ?_
    refine xo_4 (lv' := [some (.ref 64), some (.int x1), some (.int x2), some (.int x3), some (.int x4), some (.int x5), some (.int 5), some (.int x2)]) rfl rfl rfl ?_
    refine xo_2 rfl rfl ?_
    refine xo_13r rfl cr_64_17 ?_
    refine xo_2 rfl rfl ?_
    refine xo_13 rfl cf_64_18 ?_
    refine xo_1 rfl rfl ?_
    refine xo_0 rfl ?_
    refine xo_0 rfl ?_
    refine xo_1 rfl rfl ?_
    refine xo_0 rfl ?_
    refine xo_7 (z := 1) rfl (by decide) ?_
    refine xo_7 (z := 8) rfl (by decide) ?_
    refine xo_7 (z := 16) rfl (by decide) ?_
    refine xo_7 rfl rfl ?_
    refine xo_0 rfl ?_
    refine xo_7 rfl rfl ?_
    obtain ⟨hg7, H⟩ := H
    refine xo_22 rfl ca_81 hg7 ?_
    refine xo_2 rfl rfl ?_
    refine xo_28 rfl rfl ?_
    refine xo_13 rfl cf_64_18 ?_
    refine xo_0 rfl ?_
    refine xo_7 rfl rfl ?_
    refine xo_14 rfl cf_64_18 ?_
    refine xo_9 (z := 6) (lv' := [some (.ref 64), some (.int x1), some (.int x2), some (.int x3), some (.int x4), some (.int x5), some (.int 6), some (.int x2)]) rfl rfl (by decide) rfl rfl ?_
    refine xo_12 rfl ?_
    refine xo_1 rfl rfl ?_
    refine xo_0 rfl ?_
    refine xo_11n rfl (by decide) ?_
    refine xo_1 rfl rfl ?_
    refine xo_0 rfl ?_
    refine xo_11 rfl (by decide) ?_
    refine xo_1 rfl rfl ?_
    refine xo_0 rfl ?_
    refine xo_11n rfl (by decide) ?_
    refine xo_1 rfl rfl ?_
    refine xo_12 rfl ?_
    refine xo_4 (lv' := [some (.ref 64), some (.int x1), some (.int x2), some (.int x3), some (.int x4), some (.int x5), some (.int 6), some (.int x2)]) rfl rfl rfl ?_
    refine xo_2 rfl rfl ?_
    refine xo_13r rfl cr_64_17 ?_
    refine xo_2 rfl rfl ?_
    refine xo_13 rfl cf_64_18 ?_
    refine xo_1 rfl rfl ?_
    refine xo_0 rfl ?_
    refine xo_0 rfl ?_
    refine xo_1 rfl rfl ?_
    refine xo_0 rfl ?_
    refine xo_7 (z := 2) rfl (by decide) ?_
    refine xo_7 (z := 16) rfl (by decide) ?_
    refine xo_7 (z := 8) rfl (by decide) ?_
    refine xo_7 rfl rfl ?_
    refine xo_0 rfl ?_
    refine xo_7 rfl rfl ?_
    obtain ⟨hg8, H⟩ := H
    refine xo_22 rfl ca_81 hg8 ?_
    refine xo_2 rfl rfl ?_
    refine xo_28 rfl rfl ?_
    refine xo_13 rfl cf_64_18 ?_
    refine xo_0 rfl ?_
    refine xo_7 rfl rfl ?_
    refine xo_14 rfl cf_64_18 ?_
    refine xo_9 (z := 7) (lv' := [some (.ref 64), some (.int x1), some (.int x2), some (.int x3), some (.int x4), some (.int x5), some (.int 7), some (.int x2)]) rfl rfl (by decide) rfl rfl ?_
    refine xo_12 rfl ?_
    refine xo_1 rfl rfl ?_
    refine xo_0 rfl ?_
    refine xo_11n rfl (by decide) ?_
    refine xo_1 rfl rfl ?_
    refine xo_0 rfl ?_
    refine xo_11 rfl (by decide) ?_
    refine xo_1 rfl rfl ?_
    refine xo_0 rfl ?_
    refine xo_11n rfl (by decide) ?_
    refine xo_1 rfl rfl ?_
    refine xo_12 rfl ?_
    refine xo_4 (lv' := [some (.ref 64), some (.int x1), some (.int x2), some (.int x3), some (.int x4), some (.int x5), some (.int 7), some (.int x2)]) rfl rfl rfl ?_
    refine xo_2 rfl rfl ?_
    refine xo_13r rfl cr_64_17 ?_
    refine xo_2 rfl rfl ?_
    refine xo_13 rfl cf_64_18 ?_
    refine xo_1 rfl rfl ?_
    refine xo_0 rfl ?_
    refine xo_0 rfl ?_
    refine xo_1 rfl rfl ?_
    refine xo_0 rfl ?_
    refine xo_7 (z := 3) rfl (by decide) ?_
    refine xo_7 (z := 24) rfl (by decide) ?_
    refine xo_7 (z := 0) rfl (by decide) ?_
    refine xo_7 rfl rfl ?_
    refine xo_0 rfl ?_
    refine xo_7 rfl rfl ?_
    obtain ⟨hg9, H⟩ := H
    refine xo_22 rfl ca_81 hg9 ?_
    refine xo_2 rfl rfl ?_
    refine xo_28 rfl rfl ?_
    refine xo_13 rfl cf_64_18 ?_
    refine xo_0 rfl ?_
    refine xo_7 rfl rfl ?_
    refine xo_14 rfl cf_64_18 ?_
    refine xo_9 (z := 8) (lv' := [some (.ref 64), some (.int x1), some (.int x2), some (.int x3), some (.int x4), some (.int x5), some (.int 8), some (.int x2)]) rfl rfl (by decide) rfl rfl ?_
    refine xo_12 rfl ?_
    refine xo_1 rfl rfl ?_
    refine xo_0 rfl ?_
    refine xo_11n rfl (by decide) ?_
    refine xo_1 rfl rfl ?_
    refine xo_0 rfl ?_
    refine xo_11 rfl (by decide) ?_
    refine xo_1 rfl rfl ?_
    refine xo_0 rfl ?_
    refine xo_11 rfl (by decide) ?_
    refine xo_1 rfl rfl ?_
    refine xo_0 rfl ?_
    refine xo_11n rfl (by decide) ?_
    refine xo_1 rfl rfl ?_
    refine xo_12 rfl ?_
    refine xo_4 (lv' := [some (.ref 64), some (.int x1), some (.int x2), some (.int x3), some (.int x4), some (.int x5), some (.int 8), some (.int x3)]) rfl rfl rfl ?_
    refine xo_2 rfl rfl ?_
    refine xo_13r rfl cr_64_17 ?_
    refine xo_2 rfl rfl ?_
    refine xo_13 rfl cf_64_18 ?_
    refine xo_1 rfl rfl ?_
    refine xo_0 rfl ?_
    refine xo_0 rfl ?_
    refine xo_1 rfl rfl ?_
    refine xo_0 rfl ?_
    refine xo_7 (z := 0) rfl (by decide) ?_
    refine xo_7 (z := 0) rfl (by decide) ?_
    refine xo_7 (z := 24) rfl (by decide) ?_
    refine xo_7 rfl rfl ?_
    refine xo_0 rfl ?_
    refine xo_7 rfl rfl ?_
    obtain ⟨hg10, H⟩ := H
    refine xo_22 rfl ca_81 hg10 ?_
    refine xo_2 rfl rfl ?_
    refine xo_28 rfl rfl ?_
    refine xo_13 rfl cf_64_18 ?_
    refine xo_0 rfl ?_
    refine xo_7 rfl rfl ?_
    refine xo_14 rfl cf_64_18 ?_
    refine xo_9 (z := 9) (lv' := [some (.ref 64), some (.int x1), some (.int x2), some (.int x3), some (.int x4), some (.int x5), some (.int 9), some (.int x3)]) rfl rfl (by decide) rfl rfl ?_
    refine xo_12 rfl ?_
    refine xo_1 rfl rfl ?_
    refine xo_0 rfl ?_
    refine xo_11n rfl (by decide) ?_
    refine xo_1 rfl rfl ?_
    refine xo_0 rfl ?_
    refine xo_11 rfl (by decide) ?_
    refine xo_1 rfl rfl ?_
    refine xo_0 rfl ?_
    refine xo_11 rfl (by decide) ?_
    refine xo_1 rfl rfl ?_
    refine xo_0 rfl ?_
    refine xo_11n rfl (by decide) ?_
    refine xo_1 rfl rfl ?_
    refine xo_12 rfl ?_
    refine xo_4 (lv' := [some (.ref 64), some (.int x1), some (.int x2), some (.int x3), some (.int x4), some (.int x5), some (.int 9), some (.int x3)]) rfl rfl rfl ?_
    refine xo_2 rfl rfl ?_
    refine xo_13r rfl cr_64_17 ?_
    refine xo_2 rfl rfl ?_
    refine xo_13 rfl cf_64_18 ?_
    refine xo_1 rfl rfl ?_
    refine xo_0 rfl ?_
    refine xo_0 rfl ?_
    refine xo_1 rfl rfl ?_
    refine xo_0 rfl ?_
    refine xo_7 (z := 1) rfl (by decide) ?_
    refine xo_7 (z := 8) rfl (by decide) ?_
    refine xo_7 (z := 16) rfl (by decide) ?_
    refine xo_7 rfl rfl ?_
    refine xo_0 rfl ?_
    refine xo_7 rfl rfl ?_
    obtain ⟨hg11, H⟩ := H
    refine xo_22 rfl ca_81 hg11 ?_
    refine xo_2 rfl rfl ?_
    refine xo_28 rfl rfl ?_
    refine xo_13 rfl cf_64_18 ?_
    refine xo_0 rfl ?_
    refine xo_7 rfl rfl ?_
    refine xo_14 rfl cf_64_18 ?_
    refine xo_9 (z := 10) (lv' := [some (.ref 64), some (.int x1), some (.int x2), some (.int x3), some (.int x4), some (.int x5), some (.int 10), some (.int x3)]) rfl rfl (by decide) rfl rfl ?_
    refine xo_12 rfl ?_
    refine xo_1 rfl rfl ?_
    refine xo_0 rfl ?_
    refine xo_11n rfl (by decide) ?_
    refine xo_1 rfl rfl ?_
    refine xo_0 rfl ?_
    refine xo_11 rfl (by decide) ?_
    refine xo_1 rfl rfl ?_
    refine xo_0 rfl ?_
    refine xo_11 rfl (by decide) ?_
    refine xo_1 rfl rfl ?_
    refine xo_0 rfl ?_
    refine xo_11n rfl (by decide) ?_
    refine xo_1 rfl rfl ?_
    refine xo_12 rfl ?_
    refine xo_4 (lv' := [some (.ref 64), some (.int x1), some (.int x2), some (.int x3), some (.int x4), some (.int x5), some (.int 10), some (.int x3)]) rfl rfl rfl ?_
    refine xo_2 rfl rfl ?_
    refine xo_13r rfl cr_64_17 ?_
    refine xo_2 rfl rfl ?_
    refine xo_13 rfl cf_64_18 ?_
    refine xo_1 rfl rfl ?_
    refine xo_0 rfl ?_
    refine xo_0 rfl ?_
    refine xo_1 rfl rfl ?_
    refine xo_0 rfl ?_
    refine xo_7 (z := 2) rfl (by decide) ?_
    refine xo_7 (z := 16) rfl (by decide) ?_
    refine xo_7 (z := 8) rfl (by decide) ?_
    refine xo_7 rfl rfl ?_
    refine xo_0 rfl ?_
    refine xo_7 rfl rfl ?_
    obtain ⟨hg12, H⟩ := H
    refine xo_22 rfl ca_81 hg12 ?_
    refine xo_2 rfl rfl ?_
    refine xo_28 rfl rfl ?_
    refine xo_13 rfl cf_64_18 ?_
    refine xo_0 rfl ?_
    refine xo_7 rfl rfl ?_
    refine xo_14 rfl cf_64_18 ?_
    refine xo_9 (z := 11) (lv' := [some (.ref 64), some (.int x1), some (.int x2), some (.int x3), some (.int x4), some (.int x5), some (.int 11), some (.int x3)]) rfl rfl (by decide) rfl rfl ?_
    refine xo_12 rfl ?_
    refine xo_1 rfl rfl ?_
    refine xo_0 rfl ?_
    refine xo_11n rfl (by decide) ?_
    refine xo_1 rfl rfl ?_
    refine xo_0 rfl ?_
    refine xo_11 rfl (by decide) ?_
    refine xo_1 rfl rfl ?_
    refine xo_0 rfl ?_
    refine xo_11 rfl (by decide) ?_
    refine xo_1 rfl rfl ?_
    refine xo_0 rfl ?_
    refine xo_11n rfl (by decide) ?_
    refine xo_1 rfl rfl ?_
    refine xo_12 rfl ?_
    refine xo_4 (lv' := [some (.ref 64), some (.int x1), some (.int x2), some (.int x3), some (.int x4), some (.int x5), some (.int 11), some (.int x3)]) rfl rfl rfl ?_
    refine xo_2 rfl rfl ?_
    refine xo_13r rfl cr_64_17 ?_
    refine xo_2 rfl rfl ?_
    refine xo_13 rfl cf_64_18 ?_
    refine xo_1 rfl rfl ?_
    refine xo_0 rfl ?_
    refine xo_0 rfl ?_
    refine xo_1 rfl rfl ?_
    refine xo_0 rfl ?_
    refine xo_7 (z := 3) rfl (by decide) ?_
    refine xo_7 (z := 24) rfl (by decide) ?_
    refine xo_7 (z := 0) rfl (by decide) ?_
    refine xo_7 rfl rfl ?_
    refine xo_0 rfl ?_
    refine xo_7 rfl rfl ?_
    obtain ⟨hg13, H⟩ := H
    refine xo_22 rfl ca_81 hg13 ?_
    refine xo_2 rfl rfl ?_
    refine xo_28 rfl rfl ?_
    refine xo_13 rfl cf_64_18 ?_
    refine xo_0 rfl ?_
    refine xo_7 rfl rfl ?_
    refine xo_14 rfl cf_64_18 ?_
    refine xo_9 (z := 12) (lv' := [some (.ref 64), some (.int x1), some (.int x2), some (.int x3), some (.int x4), some (.int x5), some (.int 12), some (.int x3)]) rfl rfl (by decide) rfl rfl ?_
    refine xo_12 rfl ?_
    refine xo_1 rfl rfl ?_
    refine xo_0 rfl ?_
    refine xo_11n rfl (by decide) ?_
    refine xo_1 rfl rfl ?_
    refine xo_0 rfl ?_
    refine xo_11 rfl (by decide) ?_
    refine xo_1 rfl rfl ?_
    refine xo_0 rfl ?_
    refine xo_11 rfl (by decide) ?_
    refine xo_1 rfl rfl ?_
    refine xo_0 rfl ?_
    refine xo_11 rfl (by decide) ?_
    refine xo_1 rfl rfl ?_
    refine xo_0 rfl ?_
    refine xo_11n rfl (by decide) ?_
    refine xo_1 rfl rfl ?_
    refine xo_12 rfl ?_
    refine xo_4 (lv' := [some (.ref 64), some (.int x1), some (.int x2), some (.int x3), some (.int x4), some (.int x5), some (.int 12), some (.int x4)]) rfl rfl rfl ?_
    refine xo_2 rfl rfl ?_
    refine xo_13r rfl cr_64_17 ?_
    refine xo_2 rfl rfl ?_
    refine xo_13 rfl cf_64_18 ?_
    refine xo_1 rfl rfl ?_
    refine xo_0 rfl ?_
    refine xo_0 rfl ?_
    refine xo_1 rfl rfl ?_
    refine xo_0 rfl ?_
    refine xo_7 (z := 0) rfl (by decide) ?_
    refine xo_7 (z := 0) rfl (by decide) ?_
    refine xo_7 (z := 24) rfl (by decide) ?_
    refine xo_7 rfl rfl ?_
    refine xo_0 rfl ?_
    refine xo_7 rfl rfl ?_
    obtain ⟨hg14, H⟩ := H
    refine xo_22 rfl ca_81 hg14 ?_
    refine xo_2 rfl rfl ?_
    refine xo_28 rfl rfl ?_
    refine xo_13 rfl cf_64_18 ?_
    refine xo_0 rfl ?_
    refine xo_7 rfl rfl ?_
    refine xo_14 rfl cf_64_18 ?_
    refine xo_9 (z := 13) (lv' := [some (.ref 64), some (.int x1), some (.int x2), some (.int x3), some (.int x4), some (.int x5), some (.int 13), some (.int x4)]) rfl rfl (by decide) rfl rfl ?_
    refine xo_12 rfl ?_
    refine xo_1 rfl rfl ?_
    refine xo_0 rfl ?_
    refine xo_11n rfl (by decide) ?_
    refine xo_1 rfl rfl ?_
    refine xo_0 rfl ?_
    refine xo_11 rfl (by decide) ?_
    refine xo_1 rfl rfl ?_
    refine xo_0 rfl ?_
    refine xo_11 rfl (by decide) ?_
    refine xo_1 rfl rfl ?_
    refine xo_0 rfl ?_
    refine xo_11 rfl (by decide) ?_
    refine xo_1 rfl rfl ?_
    refine xo_0 rfl ?_
    refine xo_11n rfl (by decide) ?_
    refine xo_1 rfl rfl ?_
    refine xo_12 rfl ?_
    refine xo_4 (lv' := [some (.ref 64), some (.int x1), some (.int x2), some (.int x3), some (.int x4), some (.int x5), some (.int 13), some (.int x4)]) rfl rfl rfl ?_
    refine xo_2 rfl rfl ?_
    refine xo_13r rfl cr_64_17 ?_
    refine xo_2 rfl rfl ?_
    refine xo_13 rfl cf_64_18 ?_
    refine xo_1 rfl rfl ?_
    refine xo_0 rfl ?_
    refine xo_0 rfl ?_
    refine xo_1 rfl rfl ?_
    refine xo_0 rfl ?_
    refine xo_7 (z := 1) rfl (by decide) ?_
    refine xo_7 (z := 8) rfl (by decide) ?_
    refine xo_7 (z := 16) rfl (by decide) ?_
    refine xo_7 rfl rfl ?_
    refine xo_0 rfl ?_
    refine xo_7 rfl rfl ?_
    obtain ⟨hg15, H⟩ := H
    refine xo_22 rfl ca_81 hg15 ?_
    refine xo_2 rfl rfl ?_
    refine xo_28 rfl rfl ?_
    refine xo_13 rfl cf_64_18 ?_
    refine xo_0 rfl ?_
    refine xo_7 rfl rfl ?_
    refine xo_14 rfl cf_64_18 ?_
    refine xo_9 (z := 14) (lv' := [some (.ref 64), some (.int x1), some (.int x2), some (.int x3), some (.int x4), some (.int x5), some (.int 14), some (.int x4)]) rfl rfl (by decide) rfl rfl ?_
    refine xo_12 rfl ?_
    refine xo_1 rfl rfl ?_
    refine xo_0 rfl ?_
    refine xo_11n rfl (by decide) ?_
    refine xo_1 rfl rfl ?_
    refine xo_0 rfl ?_
    refine xo_11 rfl (by decide) ?_
    refine xo_1 rfl rfl ?_
    refine xo_0 rfl ?_
    refine xo_11 rfl (by decide) ?_
    refine xo_1 rfl rfl ?_
    refine xo_0 rfl ?_
    refine xo_11 rfl (by decide) ?_
    refine xo_1 rfl rfl ?_
    refine xo_0 rfl ?_
    refine xo_11n rfl (by decide) ?_
    refine xo_1 rfl rfl ?_
    refine xo_12 rfl ?_
    refine xo_4 (lv' := [some (.ref 64), some (.int x1), some (.int x2), some (.int x3), some (.int x4), some (.int x5), some (.int 14), some (.int x4)]) rfl rfl rfl ?_
    refine xo_2 rfl rfl ?_
    refine xo_13r rfl cr_64_17 ?_
    refine xo_2 rfl rfl ?_
    refine xo_13 rfl cf_64_18 ?_
    refine xo_1 rfl rfl ?_
    refine xo_0 rfl ?_
    refine xo_0 rfl ?_
    refine xo_1 rfl rfl ?_
    refine xo_0 rfl ?_
    refine xo_7 (z := 2) rfl (by decide) ?_
    refine xo_7 (z := 16) rfl (by decide) ?_
    refine xo_7 (z := 8) rfl (by decide) ?_
    refine xo_7 rfl rfl ?_
    refine xo_0 rfl ?_
    refine xo_7 rfl rfl ?_
    obtain ⟨hg16, H⟩ := H
    refine xo_22 rfl ca_81 hg16 ?_
    refine xo_2 rfl rfl ?_
    refine xo_28 rfl rfl ?_
    refine xo_13 rfl cf_64_18 ?_
    refine xo_0 rfl ?_
    refine xo_7 rfl rfl ?_
    refine xo_14 rfl cf_64_18 ?_
    refine xo_9 (z := 15) (lv' := [some (.ref 64), some (.int x1), some (.int x2), some (.int x3), some (.int x4), some (.int x5), some (.int 15), some (.int x4)]) rfl rfl (by decide) rfl rfl ?_
    refine xo_12 rfl ?_
    refine xo_1 rfl rfl ?_
    refine xo_0 rfl ?_
    refine xo_11n rfl (by decide) ?_
    refine xo_1 rfl rfl ?_
    refine xo_0 rfl ?_
    refine xo_11 rfl (by decide) ?_
    refine xo_1 rfl rfl ?_
    refine xo_0 rfl ?_
    refine xo_11 rfl (by decide) ?_
    refine xo_1 rfl rfl ?_
    refine xo_0 rfl ?_
    refine xo_11 rfl (by decide) ?_
    refine xo_1 rfl rfl ?_
    refine xo_0 rfl ?_
    refine xo_11n rfl (by decide) ?_
    refine xo_1 rfl rfl ?_
    refine xo_12 rfl ?_
    refine xo_4 (lv' := [some (.ref 64), some (.int x1), some (.int x2), some (.int x3), some (.int x4), some (.int x5), some (.int 15), some (.int x4)]) rfl rfl rfl ?_
    refine xo_2 rfl rfl ?_
    refine xo_13r rfl cr_64_17 ?_
    refine xo_2 rfl rfl ?_
    refine xo_13 rfl cf_64_18 ?_
    refine xo_1 rfl rfl ?_
    refine xo_0 rfl ?_
    refine xo_0 rfl ?_
    refine xo_1 rfl rfl ?_
    refine xo_0 rfl ?_
    refine xo_7 (z := 3) rfl (by decide) ?_
    refine xo_7 (z := 24) rfl (by decide) ?_
    refine xo_7 (z := 0) rfl (by decide) ?_
    refine xo_7 rfl rfl ?_
    refine xo_0 rfl ?_
    refine xo_7 rfl rfl ?_
    obtain ⟨hg17, H⟩ := H
    refine xo_22 rfl ca_81 hg17 ?_
    refine xo_2 rfl rfl ?_
    refine xo_28 rfl rfl ?_
    refine xo_13 rfl cf_64_18 ?_
    refine xo_0 rfl ?_
    refine xo_7 rfl rfl ?_
    refine xo_14 rfl cf_64_18 ?_
    refine xo_9 (z := 16) (lv' := [some (.ref 64), some (.int x1), some (.int x2), some (.int x3), some (.int x4), some (.int x5), some (.int 16), some (.int x4)]) rfl rfl (by decide) rfl rfl ?_
    refine xo_12 rfl ?_
    refine xo_1 rfl rfl ?_
    refine xo_0 rfl ?_
    refine xo_11n rfl (by decide) ?_
    refine xo_1 rfl rfl ?_
    refine xo_0 rfl ?_
    refine xo_11 rfl (by decide) ?_
    refine xo_1 rfl rfl ?_
    refine xo_0 rfl ?_
    refine xo_11 rfl (by decide) ?_
    refine xo_1 rfl rfl ?_
    refine xo_0 rfl ?_
    refine xo_11 rfl (by decide) ?_
    refine xo_1 rfl rfl ?_
    refine xo_0 rfl ?_
    refine xo_11 rfl (by decide) ?_
    refine xo_1 rfl rfl ?_
    refine xo_4 (lv' := [some (.ref 64), some (.int x1), some (.int x2), some (.int x3), some (.int x4), some (.int x5), some (.int 16), some (.int x5)]) rfl rfl rfl ?_
    refine xo_2 rfl rfl ?_
    refine xo_13r rfl cr_64_17 ?_
    refine xo_2 rfl rfl ?_
    refine xo_13 rfl cf_64_18 ?_
    refine xo_1 rfl rfl ?_
    refine xo_0 rfl ?_
    refine xo_0 rfl ?_
    refine xo_1 rfl rfl ?_
    refine xo_0 rfl ?_
    refine xo_7 (z := 0) rfl (by decide) ?_
    refine xo_7 (z := 0) rfl (by decide) ?_
    refine xo_7 (z := 24) rfl (by decide) ?_
    refine xo_7 rfl rfl ?_
    refine xo_0 rfl ?_
    refine xo_7 rfl rfl ?_
    obtain ⟨hg18, H⟩ := H
    refine xo_22 rfl ca_81 hg18 ?_
    refine xo_2 rfl rfl ?_
    refine xo_28 rfl rfl ?_
    refine xo_13 rfl cf_64_18 ?_
    refine xo_0 rfl ?_
    refine xo_7 rfl rfl ?_
    refine xo_14 rfl cf_64_18 ?_
    refine xo_9 (z := 17) (lv' := [some (.ref 64), some (.int x1), some (.int x2), some (.int x3), some (.int x4), some (.int x5), some (.int 17), some (.int x5)]) rfl rfl (by decide) rfl rfl ?_
    refine xo_12 rfl ?_
    refine xo_1 rfl rfl ?_
    refine xo_0 rfl ?_
    refine xo_11n rfl (by decide) ?_
    refine xo_1 rfl rfl ?_
    refine xo_0 rfl ?_
    refine xo_11 rfl (by decide) ?_
    refine xo_1 rfl rfl ?_
    refine xo_0 rfl ?_
    refine xo_11 rfl (by decide) ?_
    refine xo_1 rfl rfl ?_
    refine xo_0 rfl ?_
    refine xo_11 rfl (by decide) ?_
    refine xo_1 rfl rfl ?_
    refine xo_0 rfl ?_
    refine xo_11 rfl (by decide) ?_
    refine xo_1 rfl rfl ?_
    refine xo_4 (lv' := [some (.ref 64), some (.int x1), some (.int x2), some (.int x3), some (.int x4), some (.int x5), some (.int 17), some (.int x5)]) rfl rfl rfl ?_
    refine xo_2 rfl rfl ?_
    refine xo_13r rfl cr_64_17 ?_
    refine xo_2 rfl rfl ?_
    refine xo_13 rfl cf_64_18 ?_
    refine xo_1 rfl rfl ?_
    refine xo_0 rfl ?_
    refine xo_0 rfl ?_
    refine xo_1 rfl rfl ?_
    refine xo_0 rfl ?_
    refine xo_7 (z := 1) rfl (by decide) ?_
    refine xo_7 (z := 8) rfl (by decide) ?_
    refine xo_7 (z := 16) rfl (by decide) ?_
    refine xo_7 rfl rfl ?_
    refine xo_0 rfl ?_
    refine xo_7 rfl rfl ?_
    obtain ⟨hg19, H⟩ := H
    refine xo_22 rfl ca_81 hg19 ?_
    refine xo_2 rfl rfl ?_
    refine xo_28 rfl rfl ?_
    refine xo_13 rfl cf_64_18 ?_
    refine xo_0 rfl ?_
    refine xo_7 rfl rfl ?_
    refine xo_14 rfl cf_64_18 ?_
    refine xo_9 (z := 18) (lv' := [some (.ref 64), some (.int x1), some (.int x2), some (.int x3), some (.int x4), some (.int x5), some (.int 18), some (.int x5)]) rfl rfl (by decide) rfl rfl ?_
    refine xo_12 rfl ?_
    refine xo_1 rfl rfl ?_
    refine xo_0 rfl ?_
    refine xo_11n rfl (by decide) ?_
    refine xo_1 rfl rfl ?_
    refine xo_0 rfl ?_
    refine xo_11 rfl (by decide) ?_
    refine xo_1 rfl rfl ?_
    refine xo_0 rfl ?_
    refine xo_11 rfl (by decide) ?_
    refine xo_1 rfl rfl ?_
    refine xo_0 rfl ?_
    refine xo_11 rfl (by decide) ?_
    refine xo_1 rfl rfl ?_
    refine xo_0 rfl ?_
    refine xo_11 rfl (by decide) ?_
    refine xo_1 rfl rfl ?_
    refine xo_4 (lv' := [some (.ref 64), some (.int x1), some (.int x2), some (.int x3), some (.int x4), some (.int x5), some (.int 18), some (.int x5)]) rfl rfl rfl ?_
    refine xo_2 rfl rfl ?_
    refine xo_13r rfl cr_64_17 ?_
    refine xo_2 rfl rfl ?_
    refine xo_13 rfl cf_64_18 ?_
    refine xo_1 rfl rfl ?_
    refine xo_0 rfl ?_
    refine xo_0 rfl ?_
    refine xo_1 rfl rfl ?_
    refine xo_0 rfl ?_
    refine xo_7 (z := 2) rfl (by decide) ?_
    refine xo_7 (z := 16) rfl (by decide) ?_
    refine xo_7 (z := 8) rfl (by decide) ?_
    refine xo_7 rfl rfl ?_
    refine xo_0 rfl ?_
    refine xo_7 rfl rfl ?_
    obtain ⟨hg20, H⟩ := H
    refine xo_22 rfl ca_81 hg20 ?_
    refine xo_2 rfl rfl ?_
    refine xo_28 rfl rfl ?_
    refine xo_13 rfl cf_64_18 ?_
    refine xo_0 rfl ?_
    refine xo_7 rfl rfl ?_
    refine xo_14 rfl cf_64_18 ?_
    refine xo_9 (z := 19) (lv' := [some (.ref 64), some (.int x1), some (.int x2), some (.int x3), some (.int x4), some (.int x5), some (.int 19), some (.int x5)]) rfl rfl (by decide) rfl rfl ?_
    refine xo_12 rfl ?_
    refine xo_1 rfl rfl ?_
    refine xo_0 rfl ?_
    refine xo_11n rfl (by decide) ?_
    refine xo_1 rfl rfl ?_
    refine xo_0 rfl ?_
    refine xo_11 rfl (by decide) ?_
    refine xo_1 rfl rfl ?_
    refine xo_0 rfl ?_
    refine xo_11 rfl (by decide) ?_
    refine xo_1 rfl rfl ?_
    refine xo_0 rfl ?_
    refine xo_11 rfl (by decide) ?_
    refine xo_1 rfl rfl ?_
    refine xo_0 rfl ?_
    refine xo_11 rfl (by decide) ?_
    refine xo_1 rfl rfl ?_
    refine xo_4 (lv' := [some (.ref 64), some (.int x1), some (.int x2), some (.int x3), some (.int x4), some (.int x5), some (.int 19), some (.int x5)]) rfl rfl rfl ?_
    refine xo_2 rfl rfl ?_
    refine xo_13r rfl cr_64_17 ?_
    refine xo_2 rfl rfl ?_
    refine xo_13 rfl cf_64_18 ?_
    refine xo_1 rfl rfl ?_
    refine xo_0 rfl ?_
    refine xo_0 rfl ?_
    refine xo_1 rfl rfl ?_
    refine xo_0 rfl ?_
    refine xo_7 (z := 3) rfl (by decide) ?_
    refine xo_7 (z := 24) rfl (by decide) ?_
    refine xo_7 (z := 0) rfl (by decide) ?_
    refine xo_7 rfl rfl ?_
    refine xo_0 rfl ?_
    refine xo_7 rfl rfl ?_
    obtain ⟨hg21, H⟩ := H
    refine xo_22 rfl ca_81 hg21 ?_
    refine xo_2 rfl rfl ?_
    refine xo_28 rfl rfl ?_
    refine xo_13 rfl cf_64_18 ?_
    refine xo_0 rfl ?_
    refine xo_7 rfl rfl ?_
    refine xo_14 rfl cf_64_18 ?_
    refine xo_9 (z := 20) (lv' := [some (.ref 64), some (.int x1), some (.int x2), some (.int x3), some (.int x4), some (.int x5), some (.int 20), some (.int x5)]) rfl rfl (by decide) rfl rfl ?_
    refine xo_12 rfl ?_
    refine xo_1 rfl rfl ?_
    refine xo_0 rfl ?_
    refine xo_11 rfl (by decide) ?_
    refine xo_2 rfl rfl ?_
    refine xo_13 rfl cf_64_18 ?_
    refine xo_41 rfl ?_
    exact H
theorem sm_132 {x1 : Int32} (H : (if x1 < 0 then Q (some (.int 0)) (am_set (am_set h 64 3 0) 64 3 1) o g else (if (h 64 18) < x1 then Q (some (.int 0)) (am_set (am_set h 64 3 0) 64 3 1) o g else am_X L xs (d + 1) 132 51 [some (.ref 64), some (.int x1), some (.int 7)] [] am_C0 (am_set (am_set (am_set (am_set (am_set (am_set h 64 3 0) 64 18 0) 64 20 x1) 64 19 0) 64 25 0) 64 27 (-1)) o g Q T))) : am_X L xs (d + 1) 132 0 [some (.ref 64), some (.int x1), none] [] am_C0 h o g Q T := by
  refine xo_2 rfl rfl ?_
  refine xo_0 rfl ?_
  refine xo_14 rfl cf_64_3 ?_
  refine xo_1 rfl rfl ?_
  refine xo_10lt rfl (am_sp ?_ ?_ H)
  · intro hc1 H
    refine xo_2 rfl rfl ?_
    refine xo_0 rfl ?_
    refine cl_133_64 rfl hd_132 rfl ?_
    refine xo_2 rfl rfl ?_
    refine xo_1 rfl rfl ?_
    refine xo_14 rfl cf_64_3 ?_
    refine xo_0 rfl ?_
    refine xr_41 rfl ?_
    refine xo_41 rfl ?_
    exact H
  · intro hc1 H
    refine xo_1 rfl rfl ?_
    refine xo_2 rfl rfl ?_
    refine xo_13 rfl cf_64_18 ?_
    refine xo_11le rfl (am_sp ?_ ?_ H)
    · intro hc2 H
      refine xo_2 rfl rfl ?_
      refine xo_0 rfl ?_
      refine cl_133_64 rfl hd_132 rfl ?_
      refine xo_2 rfl rfl ?_
      refine xo_1 rfl rfl ?_
      refine xo_14 rfl cf_64_3 ?_
      refine xo_0 rfl ?_
      refine xr_41 rfl ?_
      refine xo_41 rfl ?_
      exact H
    · intro hc2 H
      refine xo_2 rfl rfl ?_
      refine xo_0 rfl ?_
      refine xo_14 rfl cf_64_18 ?_
      refine xo_2 rfl rfl ?_
      refine xo_1 rfl rfl ?_
      refine xo_14 rfl cf_64_20 ?_
      refine xo_2 rfl rfl ?_
      refine xo_0 rfl ?_
      refine xo_14 rfl cf_64_19 ?_
      refine xo_2 rfl rfl ?_
      refine xo_0 rfl ?_
      refine xo_14 rfl cf_64_25 ?_
      refine xo_2 rfl rfl ?_
      refine xo_0 rfl ?_
      refine xo_14 rfl cf_64_27 ?_
      refine xo_0 rfl ?_
      refine xo_4 (lv' := [some (.ref 64), some (.int x1), some (.int 7)]) rfl rfl rfl ?_
      exact H
theorem sm_132_51 {q1 : Option Value} {x2 : Int32} (hq1 : am_nl q1 = true) (H : (if x2 < 14 then (am_ix x2 14 ∧ am_X L xs (d + 1) 132 51 [some (.ref 64), q1, some (.int (x2 + 1))] [] am_C0 (am_set h 68 x2.toNatClampNeg 0) o g Q T) else am_X L xs d 134 0 [some (.ref 64), none] [] am_C0 h o g (fun w h' o' g' => am_X L xs (d + 1) 132 74 [some (.ref 64), q1, some (.int x2)] (w.toList ++ []) am_C0 h' o' g' Q T) T)) : am_X L xs (d + 1) 132 51 [some (.ref 64), q1, some (.int x2)] [] am_C0 h o g Q T := by
  refine xo_1 rfl rfl ?_
  refine xo_0 rfl ?_
  refine xo_11ge rfl (am_sp ?_ ?_ H)
  · intro hc1 H
    refine xo_2 rfl rfl ?_
    refine xo_13r rfl cr_64_4 ?_
    refine xo_1 rfl rfl ?_
    refine xo_0 rfl ?_
    obtain ⟨hg2, H⟩ := H
    refine xo_22 rfl ca_68 hg2 ?_
    refine xo_9 (z := (x2 + 1)) (lv' := [some (.ref 64), q1, some (.int (x2 + 1))]) rfl rfl rfl hq1 rfl ?_
    refine xo_12 rfl ?_
    exact H
  · intro hc1 H
    refine xo_2 rfl rfl ?_
    refine cl_134_64 rfl hd_132 rfl ?_
    exact H
theorem sm_132_74 {q1 : Option Value} {q2 : Option Value} (hq1 : am_nl q1 = true) (hq2 : am_nl q2 = true) (H : am_X L xs d 132 76 [some (.ref 64), q1, some (.int 0)] [] am_C0 h o g Q T) : am_X L xs d 132 74 [some (.ref 64), q1, q2] [] am_C0 h o g Q T := by
  refine xo_0 rfl ?_
  refine xo_4 (lv' := [some (.ref 64), q1, some (.int 0)]) rfl hq1 rfl ?_
  exact H
theorem sm_132_76 {q1 : Option Value} {x2 : Int32} (hq1 : am_nl q1 = true) (H : (if (h 64 25) = 0 then (if (h 64 21) = 0 then Q (some (.int 0)) (am_set (am_set (am_set (am_set (am_set (am_set (am_set (am_set (am_set (am_set (am_set (am_set (am_set (am_set (am_set (am_set (am_set (am_set (am_set (am_set (am_set (am_set (am_set (am_set (am_set (am_set (am_set (am_set (am_set (am_set (am_set (am_set (am_set (am_set (am_set (am_set (am_set (am_set (am_set (am_set (am_set (am_set (am_set (am_set (am_set (am_set (am_set (am_set (am_set (am_set (am_set (am_set (am_set (am_set (am_set (am_set (am_set (am_set (am_set (am_set (am_set (am_set (am_set (am_set (am_set h 68 0 (h 68 7)) 68 1 (h 68 8)) 68 2 (h 68 9)) 68 3 (h 68 10)) 68 4 (h 68 11)) 68 5 (h 68 12)) 68 6 (h 68 13)) 69 0 (h 69 5)) 70 0 (h 70 5)) 71 0 (h 71 5)) 72 0 (h 72 5)) 73 0 (h 73 5)) 77 0 0) 79 0 0) 80 0 60) 69 1 (h 69 6)) 70 1 (h 70 6)) 71 1 (h 71 6)) 72 1 (h 72 6)) 73 1 (h 73 6)) 77 1 0) 79 1 0) 80 1 60) 69 2 (h 69 7)) 70 2 (h 70 7)) 71 2 (h 71 7)) 72 2 (h 72 7)) 73 2 (h 73 7)) 77 2 0) 79 2 0) 80 2 60) 69 3 (h 69 8)) 70 3 (h 70 8)) 71 3 (h 71 8)) 72 3 (h 72 8)) 73 3 (h 73 8)) 77 3 0) 79 3 0) 80 3 60) 69 4 (h 69 9)) 70 4 (h 70 9)) 71 4 (h 71 9)) 72 4 (h 72 9)) 73 4 (h 73 9)) 77 4 0) 79 4 0) 80 4 60) 74 0 (h 74 5)) 75 0 (h 75 5)) 76 0 (h 76 5)) 74 1 (h 74 6)) 75 1 (h 75 6)) 76 1 (h 76 6)) 74 2 (h 74 7)) 75 2 (h 75 7)) 76 2 (h 76 7)) 74 3 (h 74 8)) 75 3 (h 75 8)) 76 3 (h 76 8)) 74 4 (h 74 9)) 75 4 (h 75 9)) 76 4 (h 76 9)) 64 28 0) 64 45 0) 64 51 0) o g else am_X L xs d 138 0 [some (.ref 64), some (.int x2), none, none, none] [] am_C0 h o g (fun w h' o' g' => am_X L xs (d + 1) 132 95 [some (.ref 64), q1, some (.int x2)] (w.toList ++ []) am_C0 h' o' g' Q T) T) else Q (some (.int (h 64 25))) (am_set (am_set h 64 27 (h 64 26)) 78 0 ((h 78 0) + 1)) o g)) : am_X L xs (d + 1) 132 76 [some (.ref 64), q1, some (.int x2)] [] am_C0 h o g Q T := by
  refine xo_2 rfl rfl ?_
  refine xo_13 rfl cf_64_25 ?_
  refine xo_10ne rfl (am_sp ?_ ?_ H)
  · intro hc1 H
    refine xo_2 rfl rfl ?_
    refine xo_13 rfl cf_64_21 ?_
    refine xo_10eq rfl (am_sp ?_ ?_ H)
    · intro hc2 H
      refine xo_2 rfl rfl ?_
      refine xo_13 rfl cf_64_25 ?_
      refine xo_10eq rfl (am_ift hc1 ?_)
      refine xo_2 rfl rfl ?_
      refine cl_147_64 rfl hd_132 rfl ?_
      refine xo_0 rfl ?_
      refine xo_4 (lv' := [some (.ref 64), some (.int 0)]) rfl rfl rfl ?_
      refine xo_1 rfl rfl ?_
      refine xo_0 rfl ?_
      refine xo_11n rfl (by decide) ?_
      refine xo_2 rfl rfl ?_
      refine xo_13r rfl cr_64_4 ?_
      refine xo_1 rfl rfl ?_
      refine xo_2 rfl rfl ?_
      refine xo_13r rfl cr_64_4 ?_
      refine xo_0 rfl ?_
      refine xo_1 rfl rfl ?_
      refine xo_7 (z := 7) rfl (by decide) ?_
      refine xo_17 rfl ca_68 (am_ix.lit rfl) ?_
      refine xo_22 rfl ca_68 (am_ix.lit rfl) ?_
      refine xo_9 (z := 1) (lv' := [some (.ref 64), some (.int 1)]) rfl rfl (by decide) rfl rfl ?_
      refine xo_12 rfl ?_
      refine xo_1 rfl rfl ?_
      refine xo_0 rfl ?_
      refine xo_11n rfl (by decide) ?_
      refine xo_2 rfl rfl ?_
      refine xo_13r rfl cr_64_4 ?_
      refine xo_1 rfl rfl ?_
      refine xo_2 rfl rfl ?_
      refine xo_13r rfl cr_64_4 ?_
      refine xo_0 rfl ?_
      refine xo_1 rfl rfl ?_
      refine xo_7 (z := 8) rfl (by decide) ?_
      refine xo_17 rfl ca_68 (am_ix.lit rfl) ?_
      refine xo_22 rfl ca_68 (am_ix.lit rfl) ?_
      refine xo_9 (z := 2) (lv' := [some (.ref 64), some (.int 2)]) rfl rfl (by decide) rfl rfl ?_
      refine xo_12 rfl ?_
      refine xo_1 rfl rfl ?_
      refine xo_0 rfl ?_
      refine xo_11n rfl (by decide) ?_
      refine xo_2 rfl rfl ?_
      refine xo_13r rfl cr_64_4 ?_
      refine xo_1 rfl rfl ?_
      refine xo_2 rfl rfl ?_
      refine xo_13r rfl cr_64_4 ?_
      refine xo_0 rfl ?_
      refine xo_1 rfl rfl ?_
      refine xo_7 (z := 9) rfl (by decide) ?_
      refine xo_17 rfl ca_68 (am_ix.lit rfl) ?_
      refine xo_22 rfl ca_68 (am_ix.lit rfl) ?_
      refine xo_9 (z := 3) (lv' := [some (.ref 64), some (.int 3)]) rfl rfl (by decide) rfl rfl ?_
      refine xo_12 rfl ?_
      refine xo_1 rfl rfl ?_
      refine xo_0 rfl ?_
      refine xo_11n rfl (by decide) ?_
      refine xo_2 rfl rfl ?_
      refine xo_13r rfl cr_64_4 ?_
      refine xo_1 rfl rfl ?_
      refine xo_2 rfl rfl ?_
      refine xo_13r rfl cr_64_4 ?_
      refine xo_0 rfl ?_
      refine xo_1 rfl rfl ?_
      refine xo_7 (z := 10) rfl (by decide) ?_
      refine xo_17 rfl ca_68 (am_ix.lit rfl) ?_
      refine xo_22 rfl ca_68 (am_ix.lit rfl) ?_
      refine xo_9 (z := 4) (lv' := [some (.ref 64), some (.int 4)]) rfl rfl (by decide) rfl rfl ?_
      refine xo_12 rfl ?_
      refine xo_1 rfl rfl ?_
      refine xo_0 rfl ?_
      refine xo_11n rfl (by decide) ?_
      refine xo_2 rfl rfl ?_
      refine xo_13r rfl cr_64_4 ?_
      refine xo_1 rfl rfl ?_
      refine xo_2 rfl rfl ?_
      refine xo_13r rfl cr_64_4 ?_
      refine xo_0 rfl ?_
      refine xo_1 rfl rfl ?_
      refine xo_7 (z := 11) rfl (by decide) ?_
      refine xo_17 rfl ca_68 (am_ix.lit rfl) ?_
      refine xo_22 rfl ca_68 (am_ix.lit rfl) ?_
      refine xo_9 (z := 5) (lv' := [some (.ref 64), some (.int 5)]) rfl rfl (by decide) rfl rfl ?_
      refine xo_12 rfl ?_
      refine xo_1 rfl rfl ?_
      refine xo_0 rfl ?_
      refine xo_11n rfl (by decide) ?_
      refine xo_2 rfl rfl ?_
      refine xo_13r rfl cr_64_4 ?_
      refine xo_1 rfl rfl ?_
      refine xo_2 rfl rfl ?_
      refine xo_13r rfl cr_64_4 ?_
      refine xo_0 rfl ?_
      refine xo_1 rfl rfl ?_
      refine xo_7 (z := 12) rfl (by decide) ?_
      refine xo_17 rfl ca_68 (am_ix.lit rfl) ?_
      refine xo_22 rfl ca_68 (am_ix.lit rfl) ?_
      refine xo_9 (z := 6) (lv' := [some (.ref 64), some (.int 6)]) rfl rfl (by decide) rfl rfl ?_
      refine xo_12 rfl ?_
      refine xo_1 rfl rfl ?_
      refine xo_0 rfl ?_
      refine xo_11n rfl (by decide) ?_
      refine xo_2 rfl rfl ?_
      refine xo_13r rfl cr_64_4 ?_
      refine xo_1 rfl rfl ?_
      refine xo_2 rfl rfl ?_
      refine xo_13r rfl cr_64_4 ?_
      refine xo_0 rfl ?_
      refine xo_1 rfl rfl ?_
      refine xo_7 (z := 13) rfl (by decide) ?_
      refine xo_17 rfl ca_68 (am_ix.lit rfl) ?_
      refine xo_22 rfl ca_68 (am_ix.lit rfl) ?_
      refine xo_9 (z := 7) (lv' := [some (.ref 64), some (.int 7)]) rfl rfl (by decide) rfl rfl ?_
      refine xo_12 rfl ?_
      refine xo_1 rfl rfl ?_
      refine xo_0 rfl ?_
      refine xo_11 rfl (by decide) ?_
      refine xo_0 rfl ?_
      refine xo_4 (lv' := [some (.ref 64), some (.int 0)]) rfl rfl rfl ?_
      refine xo_1 rfl rfl ?_
      refine xo_0 rfl ?_
      refine xo_11n rfl (by decide) ?_
      refine xo_2 rfl rfl ?_
      refine xo_13r rfl cr_64_5 ?_
      refine xo_1 rfl rfl ?_
      refine xo_2 rfl rfl ?_
      refine xo_13r rfl cr_64_5 ?_
      refine xo_0 rfl ?_
      refine xo_1 rfl rfl ?_
      refine xo_7 (z := 5) rfl (by decide) ?_
      refine xo_17 rfl ca_69 (am_ix.lit rfl) ?_
      refine xo_22 rfl ca_69 (am_ix.lit rfl) ?_
      refine xo_2 rfl rfl ?_
      refine xo_13r rfl cr_64_6 ?_
      refine xo_1 rfl rfl ?_
      refine xo_2 rfl rfl ?_
      refine xo_13r rfl cr_64_6 ?_
      refine xo_0 rfl ?_
      refine xo_1 rfl rfl ?_
      refine xo_7 (z := 5) rfl (by decide) ?_
      refine xo_17 rfl ca_70 (am_ix.lit rfl) ?_
      refine xo_22 rfl ca_70 (am_ix.lit rfl) ?_
      refine xo_2 rfl rfl ?_
      refine xo_13r rfl cr_64_7 ?_
      refine xo_1 rfl rfl ?_
      refine xo_2 rfl rfl ?_
      refine xo_13r rfl cr_64_7 ?_
      refine xo_0 rfl ?_
      refine xo_1 rfl rfl ?_
      refine xo_7 (z := 5) rfl (by decide) ?_
      refine xo_17 rfl ca_71 (am_ix.lit rfl) ?_
      refine xo_22 rfl ca_71 (am_ix.lit rfl) ?_
      refine xo_2 rfl rfl ?_
      refine xo_13r rfl cr_64_8 ?_
      refine xo_1 rfl rfl ?_
      refine xo_2 rfl rfl ?_
      refine xo_13r rfl cr_64_8 ?_
      refine xo_0 rfl ?_
      refine xo_1 rfl rfl ?_
      refine xo_7 (z := 5) rfl (by decide) ?_
      refine xo_17 rfl ca_72 (am_ix.lit rfl) ?_
      refine xo_22 rfl ca_72 (am_ix.lit rfl) ?_
      refine xo_2 rfl rfl ?_
      refine xo_13r rfl cr_64_9 ?_
      refine xo_1 rfl rfl ?_
      refine xo_2 rfl rfl ?_
      refine xo_13r rfl cr_64_9 ?_
      refine xo_0 rfl ?_
      refine xo_1 rfl rfl ?_
      refine xo_7 (z := 5) rfl (by decide) ?_
      refine xo_17 rfl ca_73 (am_ix.lit rfl) ?_
      refine xo_22 rfl ca_73 (am_ix.lit rfl) ?_
      refine xo_2 rfl rfl ?_
      refine xo_13r rfl cr_64_13 ?_
      refine xo_1 rfl rfl ?_
      refine xo_0 rfl ?_
      refine xo_22 rfl ca_77 (am_ix.lit rfl) ?_
      refine xo_2 rfl rfl ?_
      refine xo_13r rfl cr_64_15 ?_
      refine xo_1 rfl rfl ?_
      refine xo_0 rfl ?_
      refine xo_22 rfl ca_79 (am_ix.lit rfl) ?_
      refine xo_2 rfl rfl ?_
      refine xo_13r rfl cr_64_16 ?_
      refine xo_1 rfl rfl ?_
      refine xo_0 rfl ?_
      refine xo_22 rfl ca_80 (am_ix.lit rfl) ?_
      refine xo_9 (z := 1) (lv' := [some (.ref 64), some (.int 1)]) rfl rfl (by decide) rfl rfl ?_
      refine xo_12 rfl ?_
      refine xo_1 rfl rfl ?_
      refine xo_0 rfl ?_
      refine xo_11n rfl (by decide) ?_
      refine xo_2 rfl rfl ?_
      refine xo_13r rfl cr_64_5 ?_
      refine xo_1 rfl rfl ?_
      refine xo_2 rfl rfl ?_
      refine xo_13r rfl cr_64_5 ?_
      refine xo_0 rfl ?_
      refine xo_1 rfl rfl ?_
      refine xo_7 (z := 6) rfl (by decide) ?_
      refine xo_17 rfl ca_69 (am_ix.lit rfl) ?_
      refine xo_22 rfl ca_69 (am_ix.lit rfl) ?_
      refine xo_2 rfl rfl ?_
      refine xo_13r rfl cr_64_6 ?_
      refine xo_1 rfl rfl ?_
      refine xo_2 rfl rfl ?_
      refine xo_13r rfl cr_64_6 ?_
      refine xo_0 rfl ?_
      refine xo_1 rfl rfl ?_
      refine xo_7 (z := 6) rfl (by decide) ?_
      refine xo_17 rfl ca_70 (am_ix.lit rfl) ?_
      refine xo_22 rfl ca_70 (am_ix.lit rfl) ?_
      refine xo_2 rfl rfl ?_
      refine xo_13r rfl cr_64_7 ?_
      refine xo_1 rfl rfl ?_
      refine xo_2 rfl rfl ?_
      refine xo_13r rfl cr_64_7 ?_
      refine xo_0 rfl ?_
      refine xo_1 rfl rfl ?_
      refine xo_7 (z := 6) rfl (by decide) ?_
      refine xo_17 rfl ca_71 (am_ix.lit rfl) ?_
      refine xo_22 rfl ca_71 (am_ix.lit rfl) ?_
      refine xo_2 rfl rfl ?_
      refine xo_13r rfl cr_64_8 ?_
      refine xo_1 rfl rfl ?_
      refine xo_2 rfl rfl ?_
      refine xo_13r rfl cr_64_8 ?_
      refine xo_0 rfl ?_
      refine xo_1 rfl rfl ?_
      refine xo_7 (z := 6) rfl (by decide) ?_
      refine xo_17 rfl ca_72 (am_ix.lit rfl) ?_
      refine xo_22 rfl ca_72 (am_ix.lit rfl) ?_
      refine xo_2 rfl rfl ?_
      refine xo_13r rfl cr_64_9 ?_
      refine xo_1 rfl rfl ?_
      refine xo_2 rfl rfl ?_
      refine xo_13r rfl cr_64_9 ?_
      refine xo_0 rfl ?_
      refine xo_1 rfl rfl ?_
      refine xo_7 (z := 6) rfl (by decide) ?_
      refine xo_17 rfl ca_73 (am_ix.lit rfl) ?_
      refine xo_22 rfl ca_73 (am_ix.lit rfl) ?_
      refine xo_2 rfl rfl ?_
      refine xo_13r rfl cr_64_13 ?_
      refine xo_1 rfl rfl ?_
      refine xo_0 rfl ?_
      refine xo_22 rfl ca_77 (am_ix.lit rfl) ?_
      refine xo_2 rfl rfl ?_
      refine xo_13r rfl cr_64_15 ?_
      refine xo_1 rfl rfl ?_
      refine xo_0 rfl ?_
      refine xo_22 rfl ca_79 (am_ix.lit rfl) ?_
      refine xo_2 rfl rfl ?_
      refine xo_13r rfl cr_64_16 ?_
      refine xo_1 rfl rfl ?_
      refine xo_0 rfl ?_
      refine xo_22 rfl ca_80 (am_ix.lit rfl) ?_
      refine xo_9 (z := 2) (lv' := [some (.ref 64), some (.int 2)]) rfl rfl (by decide) rfl rfl ?_
      refine xo_12 rfl ?_
      refine xo_1 rfl rfl ?_
      refine xo_0 rfl ?_
      refine xo_11n rfl (by decide) ?_
      refine xo_2 rfl rfl ?_
      refine xo_13r rfl cr_64_5 ?_
      refine xo_1 rfl rfl ?_
      refine xo_2 rfl rfl ?_
      refine xo_13r rfl cr_64_5 ?_
      refine xo_0 rfl ?_
      refine xo_1 rfl rfl ?_
      refine xo_7 (z := 7) rfl (by decide) ?_
      refine xo_17 rfl ca_69 (am_ix.lit rfl) ?_
      refine xo_22 rfl ca_69 (am_ix.lit rfl) ?_
      refine xo_2 rfl rfl ?_
      refine xo_13r rfl cr_64_6 ?_
      refine xo_1 rfl rfl ?_
      refine xo_2 rfl rfl ?_
      refine xo_13r rfl cr_64_6 ?_
      refine xo_0 rfl ?_
      refine xo_1 rfl rfl ?_
      refine xo_7 (z := 7) rfl (by decide) ?_
      refine xo_17 rfl ca_70 (am_ix.lit rfl) ?_
      refine xo_22 rfl ca_70 (am_ix.lit rfl) ?_
      refine xo_2 rfl rfl ?_
      refine xo_13r rfl cr_64_7 ?_
      refine xo_1 rfl rfl ?_
      refine xo_2 rfl rfl ?_
      refine xo_13r rfl cr_64_7 ?_
      refine xo_0 rfl ?_
      refine xo_1 rfl rfl ?_
      refine xo_7 (z := 7) rfl (by decide) ?_
      refine xo_17 rfl ca_71 (am_ix.lit rfl) ?_
      refine xo_22 rfl ca_71 (am_ix.lit rfl) ?_
      refine xo_2 rfl rfl ?_
      refine xo_13r rfl cr_64_8 ?_
      refine xo_1 rfl rfl ?_
      refine xo_2 rfl rfl ?_
      refine xo_13r rfl cr_64_8 ?_
      refine xo_0 rfl ?_
      refine xo_1 rfl rfl ?_
      refine xo_7 (z := 7) rfl (by decide) ?_
      refine xo_17 rfl ca_72 (am_ix.lit rfl) ?_
      refine xo_22 rfl ca_72 (am_ix.lit rfl) ?_
      refine xo_2 rfl rfl ?_
      refine xo_13r rfl cr_64_9 ?_
      refine xo_1 rfl rfl ?_
      refine xo_2 rfl rfl ?_
      refine xo_13r rfl cr_64_9 ?_
      refine xo_0 rfl ?_
      refine xo_1 rfl rfl ?_
      refine xo_7 (z := 7) rfl (by decide) ?_
      refine xo_17 rfl ca_73 (am_ix.lit rfl) ?_
      refine xo_22 rfl ca_73 (am_ix.lit rfl) ?_
      refine xo_2 rfl rfl ?_
      refine xo_13r rfl cr_64_13 ?_
      refine xo_1 rfl rfl ?_
      refine xo_0 rfl ?_
      refine xo_22 rfl ca_77 (am_ix.lit rfl) ?_
      refine xo_2 rfl rfl ?_
      refine xo_13r rfl cr_64_15 ?_
      refine xo_1 rfl rfl ?_
      refine xo_0 rfl ?_
      refine xo_22 rfl ca_79 (am_ix.lit rfl) ?_
      refine xo_2 rfl rfl ?_
      refine xo_13r rfl cr_64_16 ?_
      refine xo_1 rfl rfl ?_
      refine xo_0 rfl ?_
      refine xo_22 rfl ca_80 (am_ix.lit rfl) ?_
      refine xo_9 (z := 3) (lv' := [some (.ref 64), some (.int 3)]) rfl rfl (by decide) rfl rfl ?_
      refine xo_12 rfl ?_
      refine xo_1 rfl rfl ?_
      refine xo_0 rfl ?_
      refine xo_11n rfl (by decide) ?_
      refine xo_2 rfl rfl ?_
      refine xo_13r rfl cr_64_5 ?_
      refine xo_1 rfl rfl ?_
      refine xo_2 rfl rfl ?_
      refine xo_13r rfl cr_64_5 ?_
      refine xo_0 rfl ?_
      refine xo_1 rfl rfl ?_
      refine xo_7 (z := 8) rfl (by decide) ?_
      refine xo_17 rfl ca_69 (am_ix.lit rfl) ?_
      refine xo_22 rfl ca_69 (am_ix.lit rfl) ?_
      refine xo_2 rfl rfl ?_
      refine xo_13r rfl cr_64_6 ?_
      refine xo_1 rfl rfl ?_
      refine xo_2 rfl rfl ?_
      refine xo_13r rfl cr_64_6 ?_
      refine xo_0 rfl ?_
      refine xo_1 rfl rfl ?_
      refine xo_7 (z := 8) rfl (by decide) ?_
      refine xo_17 rfl ca_70 (am_ix.lit rfl) ?_
      refine xo_22 rfl ca_70 (am_ix.lit rfl) ?_
      refine xo_2 rfl rfl ?_
      refine xo_13r rfl cr_64_7 ?_
      refine xo_1 rfl rfl ?_
      refine xo_2 rfl rfl ?_
      refine xo_13r rfl cr_64_7 ?_
      refine xo_0 rfl ?_
      refine xo_1 rfl rfl ?_
      refine xo_7 (z := 8) rfl (by decide) ?_
      refine xo_17 rfl ca_71 (am_ix.lit rfl) ?_
      refine xo_22 rfl ca_71 (am_ix.lit rfl) ?_
      refine xo_2 rfl rfl ?_
      refine xo_13r rfl cr_64_8 ?_
      refine xo_1 rfl rfl ?_
      refine xo_2 rfl rfl ?_
      refine xo_13r rfl cr_64_8 ?_
      refine xo_0 rfl ?_
      refine xo_1 rfl rfl ?_
      refine xo_7 (z := 8) rfl (by decide) ?_
      refine xo_17 rfl ca_72 (am_ix.lit rfl) ?_
      refine xo_22 rfl ca_72 (am_ix.lit rfl) ?_
      refine xo_2 rfl rfl ?_
      refine xo_13r rfl cr_64_9 ?_
      refine xo_1 rfl rfl ?_
      refine xo_2 rfl rfl ?_
      refine xo_13r rfl cr_64_9 ?_
      refine xo_0 rfl ?_
      refine xo_1 rfl rfl ?_
      refine xo_7 (z := 8) rfl (by decide) ?_
      refine xo_17 rfl ca_73 (am_ix.lit rfl) ?_
      refine xo_22 rfl ca_73 (am_ix.lit rfl) ?_
      refine xo_2 rfl rfl ?_
      refine xo_13r rfl cr_64_13 ?_
      refine xo_1 rfl rfl ?_
      refine xo_0 rfl ?_
      refine xo_22 rfl ca_77 (am_ix.lit rfl) ?_
      refine xo_2 rfl rfl ?_
      refine xo_13r rfl cr_64_15 ?_
      refine xo_1 rfl rfl ?_
      refine xo_0 rfl ?_
      refine xo_22 rfl ca_79 (am_ix.lit rfl) ?_
      refine xo_2 rfl rfl ?_
      refine xo_13r rfl cr_64_16 ?_
      refine xo_1 rfl rfl ?_
      refine xo_0 rfl ?_
      refine xo_22 rfl ca_80 (am_ix.lit rfl) ?_
      refine xo_9 (z := 4) (lv' := [some (.ref 64), some (.int 4)]) rfl rfl (by decide) rfl rfl ?_
      refine xo_12 rfl ?_
      refine xo_1 rfl rfl ?_
      refine xo_0 rfl ?_
      refine xo_11n rfl (by decide) ?_
      refine xo_2 rfl rfl ?_
      refine xo_13r rfl cr_64_5 ?_
      refine xo_1 rfl rfl ?_
      refine xo_2 rfl rfl ?_
      refine xo_13r rfl cr_64_5 ?_
      refine xo_0 rfl ?_
      refine xo_1 rfl rfl ?_
      refine xo_7 (z := 9) rfl (by decide) ?_
      refine xo_17 rfl ca_69 (am_ix.lit rfl) ?_
      refine xo_22 rfl ca_69 (am_ix.lit rfl) ?_
      refine xo_2 rfl rfl ?_
      refine xo_13r rfl cr_64_6 ?_
      refine xo_1 rfl rfl ?_
      refine xo_2 rfl rfl ?_
      refine xo_13r rfl cr_64_6 ?_
      refine xo_0 rfl ?_
      refine xo_1 rfl rfl ?_
      refine xo_7 (z := 9) rfl (by decide) ?_
      refine xo_17 rfl ca_70 (am_ix.lit rfl) ?_
      refine xo_22 rfl ca_70 (am_ix.lit rfl) ?_
      refine xo_2 rfl rfl ?_
      refine xo_13r rfl cr_64_7 ?_
      refine xo_1 rfl rfl ?_
      refine xo_2 rfl rfl ?_
      refine xo_13r rfl cr_64_7 ?_
      refine xo_0 rfl ?_
      refine xo_1 rfl rfl ?_
      refine xo_7 (z := 9) rfl (by decide) ?_
      refine xo_17 rfl ca_71 (am_ix.lit rfl) ?_
      refine xo_22 rfl ca_71 (am_ix.lit rfl) ?_
      refine xo_2 rfl rfl ?_
      refine xo_13r rfl cr_64_8 ?_
      refine xo_1 rfl rfl ?_
      refine xo_2 rfl rfl ?_
      refine xo_13r rfl cr_64_8 ?_
      refine xo_0 rfl ?_
      refine xo_1 rfl rfl ?_
      refine xo_7 (z := 9) rfl (by decide) ?_
      refine xo_17 rfl ca_72 (am_ix.lit rfl) ?_
      refine xo_22 rfl ca_72 (am_ix.lit rfl) ?_
      refine xo_2 rfl rfl ?_
      refine xo_13r rfl cr_64_9 ?_
      refine xo_1 rfl rfl ?_
      refine xo_2 rfl rfl ?_
      refine xo_13r rfl cr_64_9 ?_
      refine xo_0 rfl ?_
      refine xo_1 rfl rfl ?_
      refine xo_7 (z := 9) rfl (by decide) ?_
      refine xo_17 rfl ca_73 (am_ix.lit rfl) ?_
      refine xo_22 rfl ca_73 (am_ix.lit rfl) ?_
      refine xo_2 rfl rfl ?_
      refine xo_13r rfl cr_64_13 ?_
      refine xo_1 rfl rfl ?_
      refine xo_0 rfl ?_
      refine xo_22 rfl ca_77 (am_ix.lit rfl) ?_
      refine xo_2 rfl rfl ?_
      refine xo_13r rfl cr_64_15 ?_
      refine xo_1 rfl rfl ?_
      refine xo_0 rfl ?_
      refine xo_22 rfl ca_79 (am_ix.lit rfl) ?_
      refine xo_2 rfl rfl ?_
      refine xo_13r rfl cr_64_16 ?_
      refine xo_1 rfl rfl ?_
      refine xo_0 rfl ?_
      refine xo_22 rfl ca_80 (am_ix.lit rfl) ?_
      refine xo_9 (z := 5) (lv' := [some (.ref 64), some (.int 5)]) rfl rfl (by decide) rfl rfl ?_
      refine xo_12 rfl ?_
      refine xo_1 rfl rfl ?_
      refine xo_0 rfl ?_
      refine xo_11 rfl (by decide) ?_
      refine xo_0 rfl ?_
      refine xo_4 (lv' := [some (.ref 64), some (.int 0)]) rfl rfl rfl ?_
      refine xo_1 rfl rfl ?_
      refine xo_0 rfl ?_
      refine xo_11n rfl (by decide) ?_
      refine xo_2 rfl rfl ?_
      refine xo_13r rfl cr_64_10 ?_
      refine xo_1 rfl rfl ?_
      refine xo_2 rfl rfl ?_
      refine xo_13r rfl cr_64_10 ?_
      refine xo_0 rfl ?_
      refine xo_1 rfl rfl ?_
      refine xo_7 (z := 5) rfl (by decide) ?_
      refine xo_17 rfl ca_74 (am_ix.lit rfl) ?_
      refine xo_22 rfl ca_74 (am_ix.lit rfl) ?_
      refine xo_2 rfl rfl ?_
      refine xo_13r rfl cr_64_11 ?_
      refine xo_1 rfl rfl ?_
      refine xo_2 rfl rfl ?_
      refine xo_13r rfl cr_64_11 ?_
      refine xo_0 rfl ?_
      refine xo_1 rfl rfl ?_
      refine xo_7 (z := 5) rfl (by decide) ?_
      refine xo_17 rfl ca_75 (am_ix.lit rfl) ?_
      refine xo_22 rfl ca_75 (am_ix.lit rfl) ?_
      refine xo_2 rfl rfl ?_
      refine xo_13r rfl cr_64_12 ?_
      refine xo_1 rfl rfl ?_
      refine xo_2 rfl rfl ?_
      refine xo_13r rfl cr_64_12 ?_
      refine xo_0 rfl ?_
      refine xo_1 rfl rfl ?_
      refine xo_7 (z := 5) rfl (by decide) ?_
      refine xo_17 rfl ca_76 (am_ix.lit rfl) ?_
      refine xo_22 rfl ca_76 (am_ix.lit rfl) ?_
      refine xo_9 (z := 1) (lv' := [some (.ref 64), some (.int 1)]) rfl rfl (by decide) rfl rfl ?_
      refine xo_12 rfl ?_
      refine xo_1 rfl rfl ?_
      refine xo_0 rfl ?_
      refine xo_11n rfl (by decide) ?_
      refine xo_2 rfl rfl ?_
      refine xo_13r rfl cr_64_10 ?_
      refine xo_1 rfl rfl ?_
      refine xo_2 rfl rfl ?_
      refine xo_13r rfl cr_64_10 ?_
      refine xo_0 rfl ?_
      refine xo_1 rfl rfl ?_
      refine xo_7 (z := 6) rfl (by decide) ?_
      refine xo_17 rfl ca_74 (am_ix.lit rfl) ?_
      refine xo_22 rfl ca_74 (am_ix.lit rfl) ?_
      refine xo_2 rfl rfl ?_
      refine xo_13r rfl cr_64_11 ?_
      refine xo_1 rfl rfl ?_
      refine xo_2 rfl rfl ?_
      refine xo_13r rfl cr_64_11 ?_
      refine xo_0 rfl ?_
      refine xo_1 rfl rfl ?_
      refine xo_7 (z := 6) rfl (by decide) ?_
      refine xo_17 rfl ca_75 (am_ix.lit rfl) ?_
      refine xo_22 rfl ca_75 (am_ix.lit rfl) ?_
      refine xo_2 rfl rfl ?_
      refine xo_13r rfl cr_64_12 ?_
      refine xo_1 rfl rfl ?_
      refine xo_2 rfl rfl ?_
      refine xo_13r rfl cr_64_12 ?_
      refine xo_0 rfl ?_
      refine xo_1 rfl rfl ?_
      refine xo_7 (z := 6) rfl (by decide) ?_
      refine xo_17 rfl ca_76 (am_ix.lit rfl) ?_
      refine xo_22 rfl ca_76 (am_ix.lit rfl) ?_
      refine xo_9 (z := 2) (lv' := [some (.ref 64), some (.int 2)]) rfl rfl (by decide) rfl rfl ?_
      refine xo_12 rfl ?_
      refine xo_1 rfl rfl ?_
      refine xo_0 rfl ?_
      refine xo_11n rfl (by decide) ?_
      refine xo_2 rfl rfl ?_
      refine xo_13r rfl cr_64_10 ?_
      refine xo_1 rfl rfl ?_
      refine xo_2 rfl rfl ?_
      refine xo_13r rfl cr_64_10 ?_
      refine xo_0 rfl ?_
      refine xo_1 rfl rfl ?_
      refine xo_7 (z := 7) rfl (by decide) ?_
      refine xo_17 rfl ca_74 (am_ix.lit rfl) ?_
      refine xo_22 rfl ca_74 (am_ix.lit rfl) ?_
      refine xo_2 rfl rfl ?_
      refine xo_13r rfl cr_64_11 ?_
      refine xo_1 rfl rfl ?_
      refine xo_2 rfl rfl ?_
      refine xo_13r rfl cr_64_11 ?_
      refine xo_0 rfl ?_
      refine xo_1 rfl rfl ?_
      refine xo_7 (z := 7) rfl (by decide) ?_
      refine xo_17 rfl ca_75 (am_ix.lit rfl) ?_
      refine xo_22 rfl ca_75 (am_ix.lit rfl) ?_
      refine xo_2 rfl rfl ?_
      refine xo_13r rfl cr_64_12 ?_
      refine xo_1 rfl rfl ?_
      refine xo_2 rfl rfl ?_
      refine xo_13r rfl cr_64_12 ?_
      refine xo_0 rfl ?_
      refine xo_1 rfl rfl ?_
      refine xo_7 (z := 7) rfl (by decide) ?_
      refine xo_17 rfl ca_76 (am_ix.lit rfl) ?_
      refine xo_22 rfl ca_76 (am_ix.lit rfl) ?_
      refine xo_9 (z := 3) (lv' := [some (.ref 64), some (.int 3)]) rfl rfl (by decide) rfl rfl ?_
      refine xo_12 rfl ?_
      refine xo_1 rfl rfl ?_
      refine xo_0 rfl ?_
      refine xo_11n rfl (by decide) ?_
      refine xo_2 rfl rfl ?_
      refine xo_13r rfl cr_64_10 ?_
      refine xo_1 rfl rfl ?_
      refine xo_2 rfl rfl ?_
      refine xo_13r rfl cr_64_10 ?_
      refine xo_0 rfl ?_
      refine xo_1 rfl rfl ?_
      refine xo_7 (z := 8) rfl (by decide) ?_
      refine xo_17 rfl ca_74 (am_ix.lit rfl) ?_
      refine xo_22 rfl ca_74 (am_ix.lit rfl) ?_
      refine xo_2 rfl rfl ?_
      refine xo_13r rfl cr_64_11 ?_
      refine xo_1 rfl rfl ?_
      refine xo_2 rfl rfl ?_
      refine xo_13r rfl cr_64_11 ?_
      refine xo_0 rfl ?_
      refine xo_1 rfl rfl ?_
      refine xo_7 (z := 8) rfl (by decide) ?_
      refine xo_17 rfl ca_75 (am_ix.lit rfl) ?_
      refine xo_22 rfl ca_75 (am_ix.lit rfl) ?_
      refine xo_2 rfl rfl ?_
      refine xo_13r rfl cr_64_12 ?_
      refine xo_1 rfl rfl ?_
      refine xo_2 rfl rfl ?_
      refine xo_13r rfl cr_64_12 ?_
      refine xo_0 rfl ?_
      refine xo_1 rfl rfl ?_
      refine xo_7 (z := 8) rfl (by decide) ?_
      refine xo_17 rfl ca_76 (am_ix.lit rfl) ?_
      refine xo_22 rfl ca_76 (am_ix.lit rfl) ?_
      refine xo_9 (z := 4) (lv' := [some (.ref 64), some (.int 4)]) rfl rfl (by decide) rfl rfl ?_
      refine xo_12 rfl ?_
      refine xo_1 rfl rfl ?_
      refine xo_0 rfl ?_
      refine xo_11n rfl (by decide) ?_
      refine xo_2 rfl rfl ?_
      refine xo_13r rfl cr_64_10 ?_
      refine xo_1 rfl rfl ?_
      refine xo_2 rfl rfl ?_
      refine xo_13r rfl cr_64_10 ?_
      refine xo_0 rfl ?_
      refine xo_1 rfl rfl ?_
      refine xo_7 (z := 9) rfl (by decide) ?_
      refine xo_17 rfl ca_74 (am_ix.lit rfl) ?_
      refine xo_22 rfl ca_74 (am_ix.lit rfl) ?_
      refine xo_2 rfl rfl ?_
      refine xo_13r rfl cr_64_11 ?_
      refine xo_1 rfl rfl ?_
      refine xo_2 rfl rfl ?_
      refine xo_13r rfl cr_64_11 ?_
      refine xo_0 rfl ?_
      refine xo_1 rfl rfl ?_
      refine xo_7 (z := 9) rfl (by decide) ?_
      refine xo_17 rfl ca_75 (am_ix.lit rfl) ?_
      refine xo_22 rfl ca_75 (am_ix.lit rfl) ?_
      refine xo_2 rfl rfl ?_
      refine xo_13r rfl cr_64_12 ?_
      refine xo_1 rfl rfl ?_
      refine xo_2 rfl rfl ?_
      refine xo_13r rfl cr_64_12 ?_
      refine xo_0 rfl ?_
      refine xo_1 rfl rfl ?_
      refine xo_7 (z := 9) rfl (by decide) ?_
      refine xo_17 rfl ca_76 (am_ix.lit rfl) ?_
      refine xo_22 rfl ca_76 (am_ix.lit rfl) ?_
      refine xo_9 (z := 5) (lv' := [some (.ref 64), some (.int 5)]) rfl rfl (by decide) rfl rfl ?_
      refine xo_12 rfl ?_
      refine xo_1 rfl rfl ?_
      refine xo_0 rfl ?_
      refine xo_11 rfl (by decide) ?_
      refine xo_2 rfl rfl ?_
      refine xo_0 rfl ?_
      refine xo_14 rfl cf_64_28 ?_
      refine xo_2 rfl rfl ?_
      refine xo_0 rfl ?_
      refine xo_15 rfl cf_64_45 rfl ?_
      refine xo_2 rfl rfl ?_
      refine xo_0 rfl ?_
      refine xo_15 rfl cf_64_51 rfl ?_
      refine xr_44 rfl ?_
      refine xo_0 rfl ?_
      refine xo_41 rfl ?_
      exact H
    · intro hc2 H
      refine xo_2 rfl rfl ?_
      refine xo_1 rfl rfl ?_
      refine cl_138_64 rfl hd_132 rfl ?_
      exact H
  · intro hc1 H
    refine xo_2 rfl rfl ?_
    refine xo_13 rfl cf_64_25 ?_
    refine xo_10eq rfl (am_iff hc1 ?_)
    refine xo_2 rfl rfl ?_
    refine xo_2 rfl rfl ?_
    refine xo_13 rfl cf_64_26 ?_
    refine xo_14 rfl cf_64_27 ?_
    refine xo_2 rfl rfl ?_
    refine xo_13r rfl cr_64_14 ?_
    refine xo_0 rfl ?_
    refine xo_29 rfl ⟨rfl, rfl⟩ ?_
    refine xo_17 rfl ca_78 (am_ix.lit rfl) ?_
    refine xo_0 rfl ?_
    refine xo_7 rfl rfl ?_
    refine xo_22 rfl ca_78 (am_ix.lit rfl) ?_
    refine xo_2 rfl rfl ?_
    refine xo_13 rfl cf_64_25 ?_
    refine xo_41 rfl ?_
    exact H
theorem sm_132_95 {q1 : Option Value} {q2 : Option Value} {z0 : Int32} (hq1 : am_nl q1 = true) (hq2 : am_nl q2 = true) (H : am_X L xs d 132 76 [some (.ref 64), q1, some (.int z0)] [] am_C0 h o g Q T) : am_X L xs d 132 95 [some (.ref 64), q1, q2] [.int z0] am_C0 h o g Q T := by
  refine xo_4 (lv' := [some (.ref 64), q1, some (.int z0)]) rfl hq1 rfl ?_
  refine xo_12 rfl ?_
  exact H
theorem sm_134 (H : (if (h 64 19) < (h 64 20) then (am_ix (h 64 19) 500 ∧ (if (h 81 ((h 64 19).toNatClampNeg)) = 32 then am_X L xs (d + 1) 134 0 [some (.ref 64), none] [] am_C0 (am_set h 64 19 ((h 64 19) + 1)) o g Q T else (if (h 81 ((h 64 19).toNatClampNeg)) = 10 then am_X L xs (d + 1) 134 0 [some (.ref 64), none] [] am_C0 (am_set h 64 19 ((h 64 19) + 1)) o g Q T else (if (h 81 ((h 64 19).toNatClampNeg)) = (-1) then Q none (am_set (am_set (am_set h 64 23 (h 64 19)) 64 21 0) 64 24 (h 64 19)) o g else (if (h 81 ((h 64 19).toNatClampNeg)) < 97 then (if (h 81 ((h 64 19).toNatClampNeg)) < 48 then (if (h 81 ((h 64 19).toNatClampNeg)) = 59 then Q none (am_set (am_set (am_set (am_set h 64 23 (h 64 19)) 64 19 ((h 64 19) + 1)) 64 21 3) 64 24 ((h 64 19) + 1)) o g else Q none (am_set (am_set (am_set (am_set h 64 23 (h 64 19)) 64 19 ((h 64 19) + 1)) 64 21 4) 64 24 ((h 64 19) + 1)) o g) else (if 57 < (h 81 ((h 64 19).toNatClampNeg)) then (if (h 81 ((h 64 19).toNatClampNeg)) = 59 then Q none (am_set (am_set (am_set (am_set h 64 23 (h 64 19)) 64 19 ((h 64 19) + 1)) 64 21 3) 64 24 ((h 64 19) + 1)) o g else Q none (am_set (am_set (am_set (am_set h 64 23 (h 64 19)) 64 19 ((h 64 19) + 1)) 64 21 4) 64 24 ((h 64 19) + 1)) o g) else am_X L xs (d + 1) 134 123 [some (.ref 64), some (.int (h 81 ((h 64 19).toNatClampNeg)))] [] am_C0 (am_set (am_set h 64 23 (h 64 19)) 64 22 0) o g Q T)) else (if 122 < (h 81 ((h 64 19).toNatClampNeg)) then (if (h 81 ((h 64 19).toNatClampNeg)) < 48 then (if (h 81 ((h 64 19).toNatClampNeg)) = 59 then Q none (am_set (am_set (am_set (am_set h 64 23 (h 64 19)) 64 19 ((h 64 19) + 1)) 64 21 3) 64 24 ((h 64 19) + 1)) o g else Q none (am_set (am_set (am_set (am_set h 64 23 (h 64 19)) 64 19 ((h 64 19) + 1)) 64 21 4) 64 24 ((h 64 19) + 1)) o g) else (if 57 < (h 81 ((h 64 19).toNatClampNeg)) then (if (h 81 ((h 64 19).toNatClampNeg)) = 59 then Q none (am_set (am_set (am_set (am_set h 64 23 (h 64 19)) 64 19 ((h 64 19) + 1)) 64 21 3) 64 24 ((h 64 19) + 1)) o g else Q none (am_set (am_set (am_set (am_set h 64 23 (h 64 19)) 64 19 ((h 64 19) + 1)) 64 21 4) 64 24 ((h 64 19) + 1)) o g) else am_X L xs (d + 1) 134 123 [some (.ref 64), some (.int (h 81 ((h 64 19).toNatClampNeg)))] [] am_C0 (am_set (am_set h 64 23 (h 64 19)) 64 22 0) o g Q T)) else am_X L xs (d + 1) 134 76 [some (.ref 64), some (.int (h 81 ((h 64 19).toNatClampNeg)))] [] am_C0 (am_set h 64 23 (h 64 19)) o g Q T)))))) else Q none (am_set (am_set (am_set h 64 23 (h 64 19)) 64 21 0) 64 24 (h 64 19)) o g)) : am_X L xs (d + 1) 134 0 [some (.ref 64), none] [] am_C0 h o g Q T := by
  refine xo_2 rfl rfl ?_
  refine xo_2 rfl rfl ?_
  refine xo_13 rfl cf_64_19 ?_
  refine cl_135_64 rfl hd_134 rfl ?_
  refine xo_1 rfl rfl ?_
  refine xo_2 rfl rfl ?_
  refine xo_13 rfl cf_64_20 ?_
  refine xo_11ge rfl (am_sp ?_ ?_ H)
  · intro hc1 H
    refine xo_2 rfl rfl ?_
    refine xo_13r rfl cr_64_17 ?_
    refine xo_1 rfl rfl ?_
    obtain ⟨hg2, H⟩ := H
    refine xo_17 rfl ca_81 hg2 ?_
    refine xo_12 rfl ?_
    refine xr_41 rfl ?_
    refine xo_0 rfl ?_
    refine xo_11eq rfl (am_sp ?_ ?_ H)
    · intro hc3 H
      refine xo_2 rfl rfl ?_
      refine xo_28 rfl rfl ?_
      refine xo_13 rfl cf_64_19 ?_
      refine xo_0 rfl ?_
      refine xo_7 rfl rfl ?_
      refine xo_14 rfl cf_64_19 ?_
      refine xo_12 rfl ?_
      exact H
    · intro hc3 H
      refine xo_2 rfl rfl ?_
      refine xo_2 rfl rfl ?_
      refine xo_13 rfl cf_64_19 ?_
      refine cl_135_64 rfl hd_134 rfl ?_
      refine xo_1 rfl rfl ?_
      refine xo_2 rfl rfl ?_
      refine xo_13 rfl cf_64_20 ?_
      refine xo_11ge rfl (am_ift hc1 ?_)
      refine xo_2 rfl rfl ?_
      refine xo_13r rfl cr_64_17 ?_
      refine xo_1 rfl rfl ?_
      refine xo_17 rfl ca_81 hg2 ?_
      refine xo_12 rfl ?_
      refine xr_41 rfl ?_
      refine xo_0 rfl ?_
      refine xo_11ne rfl (am_sp ?_ ?_ H)
      · intro hc4 H
        refine xo_2 rfl rfl ?_
        refine xo_28 rfl rfl ?_
        refine xo_13 rfl cf_64_19 ?_
        refine xo_0 rfl ?_
        refine xo_7 rfl rfl ?_
        refine xo_14 rfl cf_64_19 ?_
        refine xo_12 rfl ?_
        exact H
      · intro hc4 H
        refine xo_2 rfl rfl ?_
        refine xo_2 rfl rfl ?_
        refine xo_13 rfl cf_64_19 ?_
        refine xo_14 rfl cf_64_23 ?_
        refine xo_2 rfl rfl ?_
        refine xo_2 rfl rfl ?_
        refine xo_13 rfl cf_64_19 ?_
        refine cl_135_64 rfl hd_134 rfl ?_
        refine xo_1 rfl rfl ?_
        refine xo_2 rfl rfl ?_
        refine xo_13 rfl cf_64_20 ?_
        refine xo_11ge rfl (am_ift hc1 ?_)
        refine xo_2 rfl rfl ?_
        refine xo_13r rfl cr_64_17 ?_
        refine xo_1 rfl rfl ?_
        refine xo_17 rfl ca_81 hg2 ?_
        refine xo_12 rfl ?_
        refine xr_41 rfl ?_
        refine xo_4 (lv' := [some (.ref 64), some (.int (h 81 ((h 64 19).toNatClampNeg)))]) rfl rfl rfl ?_
        refine xo_1 rfl rfl ?_
        refine xo_0 rfl ?_
        refine xo_11ne rfl (am_sp ?_ ?_ H)
        · intro hc5 H
          refine xo_2 rfl rfl ?_
          refine xo_0 rfl ?_
          refine xo_14 rfl cf_64_21 ?_
          refine xo_12 rfl ?_
          refine xo_2 rfl rfl ?_
          refine xo_2 rfl rfl ?_
          refine xo_13 rfl cf_64_19 ?_
          refine xo_14 rfl cf_64_24 ?_
          refine xo_44 rfl ?_
          exact H
        · intro hc5 H
          refine xo_1 rfl rfl ?_
          refine cl_136 rfl hd_134 rfl ?_
          refine xo_1 rfl rfl ?_
          refine xo_0 rfl ?_
          refine xo_11lt rfl (am_sp ?_ ?_ H)
          · intro hc6 H
            refine xo_0 rfl ?_
            refine xr_42 rfl rfl ?_
            refine xo_10 rfl (by decide) ?_
            refine xo_1 rfl rfl ?_
            refine cl_137 rfl hd_134 rfl ?_
            refine xo_1 rfl rfl ?_
            refine xo_0 rfl ?_
            refine xo_11lt rfl (am_sp ?_ ?_ H)
            · intro hc7 H
              refine xo_0 rfl ?_
              refine xr_42 rfl rfl ?_
              refine xo_10 rfl (by decide) ?_
              refine xo_2 rfl rfl ?_
              refine xo_28 rfl rfl ?_
              refine xo_13 rfl cf_64_19 ?_
              refine xo_0 rfl ?_
              refine xo_7 rfl rfl ?_
              refine xo_14 rfl cf_64_19 ?_
              refine xo_2 rfl rfl ?_
              refine xo_1 rfl rfl ?_
              refine xo_0 rfl ?_
              refine xo_11ne rfl (am_sp ?_ ?_ H)
              · intro hc8 H
                refine xo_0 rfl ?_
                refine xo_12 rfl ?_
                refine xo_14 rfl cf_64_21 ?_
                refine xo_2 rfl rfl ?_
                refine xo_2 rfl rfl ?_
                refine xo_13 rfl cf_64_19 ?_
                refine xo_14 rfl cf_64_24 ?_
                refine xo_44 rfl ?_
                exact H
              · intro hc8 H
                refine xo_0 rfl ?_
                refine xo_14 rfl cf_64_21 ?_
                refine xo_2 rfl rfl ?_
                refine xo_2 rfl rfl ?_
                refine xo_13 rfl cf_64_19 ?_
                refine xo_14 rfl cf_64_24 ?_
                refine xo_44 rfl ?_
                exact H
            · intro hc7 H
              refine xo_1 rfl rfl ?_
              refine xo_0 rfl ?_
              refine xo_11gt rfl (am_sp ?_ ?_ H)
              · intro hc9 H
                refine xo_0 rfl ?_
                refine xr_42 rfl rfl ?_
                refine xo_10 rfl (by decide) ?_
                refine xo_2 rfl rfl ?_
                refine xo_28 rfl rfl ?_
                refine xo_13 rfl cf_64_19 ?_
                refine xo_0 rfl ?_
                refine xo_7 rfl rfl ?_
                refine xo_14 rfl cf_64_19 ?_
                refine xo_2 rfl rfl ?_
                refine xo_1 rfl rfl ?_
                refine xo_0 rfl ?_
                refine xo_11ne rfl (am_sp ?_ ?_ H)
                · intro hc10 H
                  refine xo_0 rfl ?_
                  refine xo_12 rfl ?_
                  refine xo_14 rfl cf_64_21 ?_
                  refine xo_2 rfl rfl ?_
                  refine xo_2 rfl rfl ?_
                  refine xo_13 rfl cf_64_19 ?_
                  refine xo_14 rfl cf_64_24 ?_
                  refine xo_44 rfl ?_
                  exact H
                · intro hc10 H
                  refine xo_0 rfl ?_
                  refine xo_14 rfl cf_64_21 ?_
                  refine xo_2 rfl rfl ?_
                  refine xo_2 rfl rfl ?_
                  refine xo_13 rfl cf_64_19 ?_
                  refine xo_14 rfl cf_64_24 ?_
                  refine xo_44 rfl ?_
                  exact H
              · intro hc9 H
                refine xo_0 rfl ?_
                refine xo_12 rfl ?_
                refine xr_42 rfl rfl ?_
                refine xo_10n rfl (by decide) ?_
                refine xo_2 rfl rfl ?_
                refine xo_0 rfl ?_
                refine xo_14 rfl cf_64_22 ?_
                exact H
          · intro hc6 H
            refine xo_1 rfl rfl ?_
            refine xo_0 rfl ?_
            refine xo_11gt rfl (am_sp ?_ ?_ H)
            · intro hc11 H
              refine xo_0 rfl ?_
              refine xr_42 rfl rfl ?_
              refine xo_10 rfl (by decide) ?_
              refine xo_1 rfl rfl ?_
              refine cl_137 rfl hd_134 rfl ?_
              refine xo_1 rfl rfl ?_
              refine xo_0 rfl ?_
              refine xo_11lt rfl (am_sp ?_ ?_ H)
              · intro hc12 H
                refine xo_0 rfl ?_
                refine xr_42 rfl rfl ?_
                refine xo_10 rfl (by decide) ?_
                refine xo_2 rfl rfl ?_
                refine xo_28 rfl rfl ?_
                refine xo_13 rfl cf_64_19 ?_
                refine xo_0 rfl ?_
                refine xo_7 rfl rfl ?_
                refine xo_14 rfl cf_64_19 ?_
                refine xo_2 rfl rfl ?_
                refine xo_1 rfl rfl ?_
                refine xo_0 rfl ?_
                refine xo_11ne rfl (am_sp ?_ ?_ H)
                · intro hc13 H
                  refine xo_0 rfl ?_
                  refine xo_12 rfl ?_
                  refine xo_14 rfl cf_64_21 ?_
                  refine xo_2 rfl rfl ?_
                  refine xo_2 rfl rfl ?_
                  refine xo_13 rfl cf_64_19 ?_
                  refine xo_14 rfl cf_64_24 ?_
                  refine xo_44 rfl ?_
                  exact H
                · intro hc13 H
                  refine xo_0 rfl ?_
                  refine xo_14 rfl cf_64_21 ?_
                  refine xo_2 rfl rfl ?_
                  refine xo_2 rfl rfl ?_
                  refine xo_13 rfl cf_64_19 ?_
                  refine xo_14 rfl cf_64_24 ?_
                  refine xo_44 rfl ?_
                  exact H
              · intro hc12 H
                refine xo_1 rfl rfl ?_
                refine xo_0 rfl ?_
                refine xo_11gt rfl (am_sp ?_ ?_ H)
                · intro hc14 H
                  refine xo_0 rfl ?_
                  refine xr_42 rfl rfl ?_
                  refine xo_10 rfl (by decide) ?_
                  refine xo_2 rfl rfl ?_
                  refine xo_28 rfl rfl ?_
                  refine xo_13 rfl cf_64_19 ?_
                  refine xo_0 rfl ?_
                  refine xo_7 rfl rfl ?_
                  refine xo_14 rfl cf_64_19 ?_
                  refine xo_2 rfl rfl ?_
                  refine xo_1 rfl rfl ?_
                  refine xo_0 rfl ?_
                  refine xo_11ne rfl (am_sp ?_ ?_ H)
                  · intro hc15 H
                    refine xo_0 rfl ?_
                    refine xo_12 rfl ?_
                    refine xo_14 rfl cf_64_21 ?_
                    refine xo_2 rfl rfl ?_
                    refine xo_2 rfl rfl ?_
                    refine xo_13 rfl cf_64_19 ?_
                    refine xo_14 rfl cf_64_24 ?_
                    refine xo_44 rfl ?_
                    exact H
                  · intro hc15 H
                    refine xo_0 rfl ?_
                    refine xo_14 rfl cf_64_21 ?_
                    refine xo_2 rfl rfl ?_
                    refine xo_2 rfl rfl ?_
                    refine xo_13 rfl cf_64_19 ?_
                    refine xo_14 rfl cf_64_24 ?_
                    refine xo_44 rfl ?_
                    exact H
                · intro hc14 H
                  refine xo_0 rfl ?_
                  refine xo_12 rfl ?_
                  refine xr_42 rfl rfl ?_
                  refine xo_10n rfl (by decide) ?_
                  refine xo_2 rfl rfl ?_
                  refine xo_0 rfl ?_
                  refine xo_14 rfl cf_64_22 ?_
                  exact H
            · intro hc11 H
              refine xo_0 rfl ?_
              refine xo_12 rfl ?_
              refine xr_42 rfl rfl ?_
              refine xo_10n rfl (by decide) ?_
              exact H
  · intro hc1 H
    refine xo_0 rfl ?_
    refine xr_41 rfl ?_
    refine xo_0 rfl ?_
    refine xo_11n rfl (by decide) ?_
    refine xo_2 rfl rfl ?_
    refine xo_2 rfl rfl ?_
    refine xo_13 rfl cf_64_19 ?_
    refine cl_135_64 rfl hd_134 rfl ?_
    refine xo_1 rfl rfl ?_
    refine xo_2 rfl rfl ?_
    refine xo_13 rfl cf_64_20 ?_
    refine xo_11ge rfl (am_iff hc1 ?_)
    refine xo_0 rfl ?_
    refine xr_41 rfl ?_
    refine xo_0 rfl ?_
    refine xo_11 rfl (by decide) ?_
    refine xo_2 rfl rfl ?_
    refine xo_2 rfl rfl ?_
    refine xo_13 rfl cf_64_19 ?_
    refine xo_14 rfl cf_64_23 ?_
    refine xo_2 rfl rfl ?_
    refine xo_2 rfl rfl ?_
    refine xo_13 rfl cf_64_19 ?_
    refine cl_135_64 rfl hd_134 rfl ?_
    refine xo_1 rfl rfl ?_
    refine xo_2 rfl rfl ?_
    refine xo_13 rfl cf_64_20 ?_
    refine xo_11ge rfl (am_iff hc1 ?_)
    refine xo_0 rfl ?_
    refine xr_41 rfl ?_
    refine xo_4 (lv' := [some (.ref 64), some (.int (-1))]) rfl rfl rfl ?_
    refine xo_1 rfl rfl ?_
    refine xo_0 rfl ?_
    refine xo_11n rfl (by decide) ?_
    refine xo_2 rfl rfl ?_
    refine xo_0 rfl ?_
    refine xo_14 rfl cf_64_21 ?_
    refine xo_12 rfl ?_
    refine xo_2 rfl rfl ?_
    refine xo_2 rfl rfl ?_
    refine xo_13 rfl cf_64_19 ?_
    refine xo_14 rfl cf_64_24 ?_
    refine xo_44 rfl ?_
    exact H
theorem sm_134_0 {q1 : Option Value} (hq1 : am_nl q1 = true) (H : (if (h 64 19) < (h 64 20) then (am_ix (h 64 19) 500 ∧ (if (h 81 ((h 64 19).toNatClampNeg)) = 32 then am_X L xs (d + 1) 134 0 [some (.ref 64), q1] [] am_C0 (am_set h 64 19 ((h 64 19) + 1)) o g Q T else (if (h 81 ((h 64 19).toNatClampNeg)) = 10 then am_X L xs (d + 1) 134 0 [some (.ref 64), q1] [] am_C0 (am_set h 64 19 ((h 64 19) + 1)) o g Q T else (if (h 81 ((h 64 19).toNatClampNeg)) = (-1) then Q none (am_set (am_set (am_set h 64 23 (h 64 19)) 64 21 0) 64 24 (h 64 19)) o g else (if (h 81 ((h 64 19).toNatClampNeg)) < 97 then (if (h 81 ((h 64 19).toNatClampNeg)) < 48 then (if (h 81 ((h 64 19).toNatClampNeg)) = 59 then Q none (am_set (am_set (am_set (am_set h 64 23 (h 64 19)) 64 19 ((h 64 19) + 1)) 64 21 3) 64 24 ((h 64 19) + 1)) o g else Q none (am_set (am_set (am_set (am_set h 64 23 (h 64 19)) 64 19 ((h 64 19) + 1)) 64 21 4) 64 24 ((h 64 19) + 1)) o g) else (if 57 < (h 81 ((h 64 19).toNatClampNeg)) then (if (h 81 ((h 64 19).toNatClampNeg)) = 59 then Q none (am_set (am_set (am_set (am_set h 64 23 (h 64 19)) 64 19 ((h 64 19) + 1)) 64 21 3) 64 24 ((h 64 19) + 1)) o g else Q none (am_set (am_set (am_set (am_set h 64 23 (h 64 19)) 64 19 ((h 64 19) + 1)) 64 21 4) 64 24 ((h 64 19) + 1)) o g) else am_X L xs (d + 1) 134 123 [some (.ref 64), some (.int (h 81 ((h 64 19).toNatClampNeg)))] [] am_C0 (am_set (am_set h 64 23 (h 64 19)) 64 22 0) o g Q T)) else (if 122 < (h 81 ((h 64 19).toNatClampNeg)) then (if (h 81 ((h 64 19).toNatClampNeg)) < 48 then (if (h 81 ((h 64 19).toNatClampNeg)) = 59 then Q none (am_set (am_set (am_set (am_set h 64 23 (h 64 19)) 64 19 ((h 64 19) + 1)) 64 21 3) 64 24 ((h 64 19) + 1)) o g else Q none (am_set (am_set (am_set (am_set h 64 23 (h 64 19)) 64 19 ((h 64 19) + 1)) 64 21 4) 64 24 ((h 64 19) + 1)) o g) else (if 57 < (h 81 ((h 64 19).toNatClampNeg)) then (if (h 81 ((h 64 19).toNatClampNeg)) = 59 then Q none (am_set (am_set (am_set (am_set h 64 23 (h 64 19)) 64 19 ((h 64 19) + 1)) 64 21 3) 64 24 ((h 64 19) + 1)) o g else Q none (am_set (am_set (am_set (am_set h 64 23 (h 64 19)) 64 19 ((h 64 19) + 1)) 64 21 4) 64 24 ((h 64 19) + 1)) o g) else am_X L xs (d + 1) 134 123 [some (.ref 64), some (.int (h 81 ((h 64 19).toNatClampNeg)))] [] am_C0 (am_set (am_set h 64 23 (h 64 19)) 64 22 0) o g Q T)) else am_X L xs (d + 1) 134 76 [some (.ref 64), some (.int (h 81 ((h 64 19).toNatClampNeg)))] [] am_C0 (am_set h 64 23 (h 64 19)) o g Q T)))))) else Q none (am_set (am_set (am_set h 64 23 (h 64 19)) 64 21 0) 64 24 (h 64 19)) o g)) : am_X L xs (d + 1) 134 0 [some (.ref 64), q1] [] am_C0 h o g Q T := by
  refine xo_2 rfl rfl ?_
  refine xo_2 rfl rfl ?_
  refine xo_13 rfl cf_64_19 ?_
  refine cl_135_64 rfl hd_134 rfl ?_
  refine xo_1 rfl rfl ?_
  refine xo_2 rfl rfl ?_
  refine xo_13 rfl cf_64_20 ?_
  refine xo_11ge rfl (am_sp ?_ ?_ H)
  · intro hc1 H
    refine xo_2 rfl rfl ?_
    refine xo_13r rfl cr_64_17 ?_
    refine xo_1 rfl rfl ?_
    obtain ⟨hg2, H⟩ := H
    refine xo_17 rfl ca_81 hg2 ?_
    refine xo_12 rfl ?_
    refine xr_41 rfl ?_
    refine xo_0 rfl ?_
    refine xo_11eq rfl (am_sp ?_ ?_ H)
    · intro hc3 H
      refine xo_2 rfl rfl ?_
      refine xo_28 rfl rfl ?_
      refine xo_13 rfl cf_64_19 ?_
      refine xo_0 rfl ?_
      refine xo_7 rfl rfl ?_
      refine xo_14 rfl cf_64_19 ?_
      refine xo_12 rfl ?_
      exact H
    · intro hc3 H
      refine xo_2 rfl rfl ?_
      refine xo_2 rfl rfl ?_
      refine xo_13 rfl cf_64_19 ?_
      refine cl_135_64 rfl hd_134 rfl ?_
      refine xo_1 rfl rfl ?_
      refine xo_2 rfl rfl ?_
      refine xo_13 rfl cf_64_20 ?_
      refine xo_11ge rfl (am_ift hc1 ?_)
      refine xo_2 rfl rfl ?_
      refine xo_13r rfl cr_64_17 ?_
      refine xo_1 rfl rfl ?_
      refine xo_17 rfl ca_81 hg2 ?_
      refine xo_12 rfl ?_
      refine xr_41 rfl ?_
      refine xo_0 rfl ?_
      refine xo_11ne rfl (am_sp ?_ ?_ H)
      · intro hc4 H
        refine xo_2 rfl rfl ?_
        refine xo_28 rfl rfl ?_
        refine xo_13 rfl cf_64_19 ?_
        refine xo_0 rfl ?_
        refine xo_7 rfl rfl ?_
        refine xo_14 rfl cf_64_19 ?_
        refine xo_12 rfl ?_
        exact H
      · intro hc4 H
        refine xo_2 rfl rfl ?_
        refine xo_2 rfl rfl ?_
        refine xo_13 rfl cf_64_19 ?_
        refine xo_14 rfl cf_64_23 ?_
        refine xo_2 rfl rfl ?_
        refine xo_2 rfl rfl ?_
        refine xo_13 rfl cf_64_19 ?_
        refine cl_135_64 rfl hd_134 rfl ?_
        refine xo_1 rfl rfl ?_
        refine xo_2 rfl rfl ?_
        refine xo_13 rfl cf_64_20 ?_
        refine xo_11ge rfl (am_ift hc1 ?_)
        refine xo_2 rfl rfl ?_
        refine xo_13r rfl cr_64_17 ?_
        refine xo_1 rfl rfl ?_
        refine xo_17 rfl ca_81 hg2 ?_
        refine xo_12 rfl ?_
        refine xr_41 rfl ?_
        refine xo_4 (lv' := [some (.ref 64), some (.int (h 81 ((h 64 19).toNatClampNeg)))]) rfl rfl rfl ?_
        refine xo_1 rfl rfl ?_
        refine xo_0 rfl ?_
        refine xo_11ne rfl (am_sp ?_ ?_ H)
        · intro hc5 H
          refine xo_2 rfl rfl ?_
          refine xo_0 rfl ?_
          refine xo_14 rfl cf_64_21 ?_
          refine xo_12 rfl ?_
          refine xo_2 rfl rfl ?_
          refine xo_2 rfl rfl ?_
          refine xo_13 rfl cf_64_19 ?_
          refine xo_14 rfl cf_64_24 ?_
          refine xo_44 rfl ?_
          exact H
        · intro hc5 H
          refine xo_1 rfl rfl ?_
          refine cl_136 rfl hd_134 rfl ?_
          refine xo_1 rfl rfl ?_
          refine xo_0 rfl ?_
          refine xo_11lt rfl (am_sp ?_ ?_ H)
          · intro hc6 H
            refine xo_0 rfl ?_
            refine xr_42 rfl rfl ?_
            refine xo_10 rfl (by decide) ?_
            refine xo_1 rfl rfl ?_
            refine cl_137 rfl hd_134 rfl ?_
            refine xo_1 rfl rfl ?_
            refine xo_0 rfl ?_
            refine xo_11lt rfl (am_sp ?_ ?_ H)
            · intro hc7 H
              refine xo_0 rfl ?_
              refine xr_42 rfl rfl ?_
              refine xo_10 rfl (by decide) ?_
              refine xo_2 rfl rfl ?_
              refine xo_28 rfl rfl ?_
              refine xo_13 rfl cf_64_19 ?_
              refine xo_0 rfl ?_
              refine xo_7 rfl rfl ?_
              refine xo_14 rfl cf_64_19 ?_
              refine xo_2 rfl rfl ?_
              refine xo_1 rfl rfl ?_
              refine xo_0 rfl ?_
              refine xo_11ne rfl (am_sp ?_ ?_ H)
              · intro hc8 H
                refine xo_0 rfl ?_
                refine xo_12 rfl ?_
                refine xo_14 rfl cf_64_21 ?_
                refine xo_2 rfl rfl ?_
                refine xo_2 rfl rfl ?_
                refine xo_13 rfl cf_64_19 ?_
                refine xo_14 rfl cf_64_24 ?_
                refine xo_44 rfl ?_
                exact H
              · intro hc8 H
                refine xo_0 rfl ?_
                refine xo_14 rfl cf_64_21 ?_
                refine xo_2 rfl rfl ?_
                refine xo_2 rfl rfl ?_
                refine xo_13 rfl cf_64_19 ?_
                refine xo_14 rfl cf_64_24 ?_
                refine xo_44 rfl ?_
                exact H
            · intro hc7 H
              refine xo_1 rfl rfl ?_
              refine xo_0 rfl ?_
              refine xo_11gt rfl (am_sp ?_ ?_ H)
              · intro hc9 H
                refine xo_0 rfl ?_
                refine xr_42 rfl rfl ?_
                refine xo_10 rfl (by decide) ?_
                refine xo_2 rfl rfl ?_
                refine xo_28 rfl rfl ?_
                refine xo_13 rfl cf_64_19 ?_
                refine xo_0 rfl ?_
                refine xo_7 rfl rfl ?_
                refine xo_14 rfl cf_64_19 ?_
                refine xo_2 rfl rfl ?_
                refine xo_1 rfl rfl ?_
                refine xo_0 rfl ?_
                refine xo_11ne rfl (am_sp ?_ ?_ H)
                · intro hc10 H
                  refine xo_0 rfl ?_
                  refine xo_12 rfl ?_
                  refine xo_14 rfl cf_64_21 ?_
                  refine xo_2 rfl rfl ?_
                  refine xo_2 rfl rfl ?_
                  refine xo_13 rfl cf_64_19 ?_
                  refine xo_14 rfl cf_64_24 ?_
                  refine xo_44 rfl ?_
                  exact H
                · intro hc10 H
                  refine xo_0 rfl ?_
                  refine xo_14 rfl cf_64_21 ?_
                  refine xo_2 rfl rfl ?_
                  refine xo_2 rfl rfl ?_
                  refine xo_13 rfl cf_64_19 ?_
                  refine xo_14 rfl cf_64_24 ?_
                  refine xo_44 rfl ?_
                  exact H
              · intro hc9 H
                refine xo_0 rfl ?_
                refine xo_12 rfl ?_
                refine xr_42 rfl rfl ?_
                refine xo_10n rfl (by decide) ?_
                refine xo_2 rfl rfl ?_
                refine xo_0 rfl ?_
                refine xo_14 rfl cf_64_22 ?_
                exact H
          · intro hc6 H
            refine xo_1 rfl rfl ?_
            refine xo_0 rfl ?_
            refine xo_11gt rfl (am_sp ?_ ?_ H)
            · intro hc11 H
              refine xo_0 rfl ?_
              refine xr_42 rfl rfl ?_
              refine xo_10 rfl (by decide) ?_
              refine xo_1 rfl rfl ?_
              refine cl_137 rfl hd_134 rfl ?_
              refine xo_1 rfl rfl ?_
              refine xo_0 rfl ?_
              refine xo_11lt rfl (am_sp ?_ ?_ H)
              · intro hc12 H
                refine xo_0 rfl ?_
                refine xr_42 rfl rfl ?_
                refine xo_10 rfl (by decide) ?_
                refine xo_2 rfl rfl ?_
                refine xo_28 rfl rfl ?_
                refine xo_13 rfl cf_64_19 ?_
                refine xo_0 rfl ?_
                refine xo_7 rfl rfl ?_
                refine xo_14 rfl cf_64_19 ?_
                refine xo_2 rfl rfl ?_
                refine xo_1 rfl rfl ?_
                refine xo_0 rfl ?_
                refine xo_11ne rfl (am_sp ?_ ?_ H)
                · intro hc13 H
                  refine xo_0 rfl ?_
                  refine xo_12 rfl ?_
                  refine xo_14 rfl cf_64_21 ?_
                  refine xo_2 rfl rfl ?_
                  refine xo_2 rfl rfl ?_
                  refine xo_13 rfl cf_64_19 ?_
                  refine xo_14 rfl cf_64_24 ?_
                  refine xo_44 rfl ?_
                  exact H
                · intro hc13 H
                  refine xo_0 rfl ?_
                  refine xo_14 rfl cf_64_21 ?_
                  refine xo_2 rfl rfl ?_
                  refine xo_2 rfl rfl ?_
                  refine xo_13 rfl cf_64_19 ?_
                  refine xo_14 rfl cf_64_24 ?_
                  refine xo_44 rfl ?_
                  exact H
              · intro hc12 H
                refine xo_1 rfl rfl ?_
                refine xo_0 rfl ?_
                refine xo_11gt rfl (am_sp ?_ ?_ H)
                · intro hc14 H
                  refine xo_0 rfl ?_
                  refine xr_42 rfl rfl ?_
                  refine xo_10 rfl (by decide) ?_
                  refine xo_2 rfl rfl ?_
                  refine xo_28 rfl rfl ?_
                  refine xo_13 rfl cf_64_19 ?_
                  refine xo_0 rfl ?_
                  refine xo_7 rfl rfl ?_
                  refine xo_14 rfl cf_64_19 ?_
                  refine xo_2 rfl rfl ?_
                  refine xo_1 rfl rfl ?_
                  refine xo_0 rfl ?_
                  refine xo_11ne rfl (am_sp ?_ ?_ H)
                  · intro hc15 H
                    refine xo_0 rfl ?_
                    refine xo_12 rfl ?_
                    refine xo_14 rfl cf_64_21 ?_
                    refine xo_2 rfl rfl ?_
                    refine xo_2 rfl rfl ?_
                    refine xo_13 rfl cf_64_19 ?_
                    refine xo_14 rfl cf_64_24 ?_
                    refine xo_44 rfl ?_
                    exact H
                  · intro hc15 H
                    refine xo_0 rfl ?_
                    refine xo_14 rfl cf_64_21 ?_
                    refine xo_2 rfl rfl ?_
                    refine xo_2 rfl rfl ?_
                    refine xo_13 rfl cf_64_19 ?_
                    refine xo_14 rfl cf_64_24 ?_
                    refine xo_44 rfl ?_
                    exact H
                · intro hc14 H
                  refine xo_0 rfl ?_
                  refine xo_12 rfl ?_
                  refine xr_42 rfl rfl ?_
                  refine xo_10n rfl (by decide) ?_
                  refine xo_2 rfl rfl ?_
                  refine xo_0 rfl ?_
                  refine xo_14 rfl cf_64_22 ?_
                  exact H
            · intro hc11 H
              refine xo_0 rfl ?_
              refine xo_12 rfl ?_
              refine xr_42 rfl rfl ?_
              refine xo_10n rfl (by decide) ?_
              exact H
  · intro hc1 H
    refine xo_0 rfl ?_
    refine xr_41 rfl ?_
    refine xo_0 rfl ?_
    refine xo_11n rfl (by decide) ?_
    refine xo_2 rfl rfl ?_
    refine xo_2 rfl rfl ?_
    refine xo_13 rfl cf_64_19 ?_
    refine cl_135_64 rfl hd_134 rfl ?_
    refine xo_1 rfl rfl ?_
    refine xo_2 rfl rfl ?_
    refine xo_13 rfl cf_64_20 ?_
    refine xo_11ge rfl (am_iff hc1 ?_)
    refine xo_0 rfl ?_
    refine xr_41 rfl ?_
    refine xo_0 rfl ?_
    refine xo_11 rfl (by decide) ?_
    refine xo_2 rfl rfl ?_
    refine xo_2 rfl rfl ?_
    refine xo_13 rfl cf_64_19 ?_
    refine xo_14 rfl cf_64_23 ?_
    refine xo_2 rfl rfl ?_
    refine xo_2 rfl rfl ?_
    refine xo_13 rfl cf_64_19 ?_
    refine cl_135_64 rfl hd_134 rfl ?_
    refine xo_1 rfl rfl ?_
    refine xo_2 rfl rfl ?_
    refine xo_13 rfl cf_64_20 ?_
    refine xo_11ge rfl (am_iff hc1 ?_)
    refine xo_0 rfl ?_
    refine xr_41 rfl ?_
    refine xo_4 (lv' := [some (.ref 64), some (.int (-1))]) rfl rfl rfl ?_
    refine xo_1 rfl rfl ?_
    refine xo_0 rfl ?_
    refine xo_11n rfl (by decide) ?_
    refine xo_2 rfl rfl ?_
    refine xo_0 rfl ?_
    refine xo_14 rfl cf_64_21 ?_
    refine xo_12 rfl ?_
    refine xo_2 rfl rfl ?_
    refine xo_2 rfl rfl ?_
    refine xo_13 rfl cf_64_19 ?_
    refine xo_14 rfl cf_64_24 ?_
    refine xo_44 rfl ?_
    exact H
theorem sm_134_123 {q1 : Option Value} (hq1 : am_nl q1 = true) (H : (if (h 64 19) < (h 64 20) then (am_ix (h 64 19) 500 ∧ (if (h 81 ((h 64 19).toNatClampNeg)) < 48 then Q none (am_set (am_set h 64 21 2) 64 24 (h 64 19)) o g else (if 57 < (h 81 ((h 64 19).toNatClampNeg)) then Q none (am_set (am_set h 64 21 2) 64 24 (h 64 19)) o g else am_X L xs (d + 1) 134 123 [some (.ref 64), q1] [] am_C0 (am_set (am_set h 64 22 (if (((10 * (h 64 22)) + (h 81 ((h 64 19).toNatClampNeg))) - 48) < 10000 then (((10 * (h 64 22)) + (h 81 ((h 64 19).toNatClampNeg))) - 48) else 10000)) 64 19 ((h 64 19) + 1)) o g Q T))) else Q none (am_set (am_set h 64 21 2) 64 24 (h 64 19)) o g)) : am_X L xs (d + 1) 134 123 [some (.ref 64), q1] [] am_C0 h o g Q T := by
  refine xo_2 rfl rfl ?_
  refine xo_2 rfl rfl ?_
  refine xo_13 rfl cf_64_19 ?_
  refine cl_135_64 rfl hd_134 rfl ?_
  refine xo_1 rfl rfl ?_
  refine xo_2 rfl rfl ?_
  refine xo_13 rfl cf_64_20 ?_
  refine xo_11ge rfl (am_sp ?_ ?_ H)
  · intro hc1 H
    refine xo_2 rfl rfl ?_
    refine xo_13r rfl cr_64_17 ?_
    refine xo_1 rfl rfl ?_
    obtain ⟨hg2, H⟩ := H
    refine xo_17 rfl ca_81 hg2 ?_
    refine xo_12 rfl ?_
    refine xr_41 rfl ?_
    refine cl_137 rfl hd_134 rfl ?_
    refine xo_1 rfl rfl ?_
    refine xo_0 rfl ?_
    refine xo_11lt rfl (am_sp ?_ ?_ H)
    · intro hc3 H
      refine xo_0 rfl ?_
      refine xr_42 rfl rfl ?_
      refine xo_10 rfl (by decide) ?_
      refine xo_2 rfl rfl ?_
      refine xo_0 rfl ?_
      refine xo_14 rfl cf_64_21 ?_
      refine xo_12 rfl ?_
      refine xo_2 rfl rfl ?_
      refine xo_2 rfl rfl ?_
      refine xo_13 rfl cf_64_19 ?_
      refine xo_14 rfl cf_64_24 ?_
      refine xo_44 rfl ?_
      exact H
    · intro hc3 H
      refine xo_1 rfl rfl ?_
      refine xo_0 rfl ?_
      refine xo_11gt rfl (am_sp ?_ ?_ H)
      · intro hc4 H
        refine xo_0 rfl ?_
        refine xr_42 rfl rfl ?_
        refine xo_10 rfl (by decide) ?_
        refine xo_2 rfl rfl ?_
        refine xo_0 rfl ?_
        refine xo_14 rfl cf_64_21 ?_
        refine xo_12 rfl ?_
        refine xo_2 rfl rfl ?_
        refine xo_2 rfl rfl ?_
        refine xo_13 rfl cf_64_19 ?_
        refine xo_14 rfl cf_64_24 ?_
        refine xo_44 rfl ?_
        exact H
      · intro hc4 H
        refine xo_0 rfl ?_
        refine xo_12 rfl ?_
        refine xr_42 rfl rfl ?_
        refine xo_10n rfl (by decide) ?_
        refine xo_2 rfl rfl ?_
        refine xo_0 rfl ?_
        refine xo_0 rfl ?_
        refine xo_2 rfl rfl ?_
        refine xo_13 rfl cf_64_22 ?_
        refine xo_7 rfl rfl ?_
        refine xo_2 rfl rfl ?_
        refine xo_2 rfl rfl ?_
        refine xo_13 rfl cf_64_19 ?_
        refine cl_135_64 rfl hd_134 rfl ?_
        refine xo_1 rfl rfl ?_
        refine xo_2 rfl rfl ?_
        refine xo_13 rfl cf_64_20 ?_
        refine xo_11ge rfl (am_ift hc1 ?_)
        refine xo_2 rfl rfl ?_
        refine xo_13r rfl cr_64_17 ?_
        refine xo_1 rfl rfl ?_
        refine xo_17 rfl ca_81 hg2 ?_
        refine xo_12 rfl ?_
        refine xr_41 rfl ?_
        refine xo_7 rfl rfl ?_
        refine xo_0 rfl ?_
        refine xo_7 rfl rfl ?_
        refine xo_47n rfl (Nat.le_of_ble_eq_true rfl) ?_
        refine xo_14 rfl cf_64_22 ?_
        refine xo_2 rfl rfl ?_
        refine xo_28 rfl rfl ?_
        refine xo_13 rfl cf_64_19 ?_
        refine xo_0 rfl ?_
        refine xo_7 rfl rfl ?_
        refine xo_14 rfl cf_64_19 ?_
        refine xo_12 rfl ?_
        exact H
  · intro hc1 H
    refine xo_0 rfl ?_
    refine xr_41 rfl ?_
    refine cl_137 rfl hd_134 rfl ?_
    refine xo_1 rfl rfl ?_
    refine xo_0 rfl ?_
    refine xo_11 rfl (by decide) ?_
    refine xo_0 rfl ?_
    refine xr_42 rfl rfl ?_
    refine xo_10 rfl (by decide) ?_
    refine xo_2 rfl rfl ?_
    refine xo_0 rfl ?_
    refine xo_14 rfl cf_64_21 ?_
    refine xo_12 rfl ?_
    refine xo_2 rfl rfl ?_
    refine xo_2 rfl rfl ?_
    refine xo_13 rfl cf_64_19 ?_
    refine xo_14 rfl cf_64_24 ?_
    refine xo_44 rfl ?_
    exact H
theorem sm_134_76 {q1 : Option Value} (hq1 : am_nl q1 = true) (H : (if (h 64 19) < (h 64 20) then (am_ix (h 64 19) 500 ∧ (if (h 81 ((h 64 19).toNatClampNeg)) < 97 then Q none (am_set (am_set h 64 21 1) 64 24 (h 64 19)) o g else (if 122 < (h 81 ((h 64 19).toNatClampNeg)) then Q none (am_set (am_set h 64 21 1) 64 24 (h 64 19)) o g else am_X L xs (d + 1) 134 76 [some (.ref 64), q1] [] am_C0 (am_set h 64 19 ((h 64 19) + 1)) o g Q T))) else Q none (am_set (am_set h 64 21 1) 64 24 (h 64 19)) o g)) : am_X L xs (d + 1) 134 76 [some (.ref 64), q1] [] am_C0 h o g Q T := by
  refine xo_2 rfl rfl ?_
  refine xo_2 rfl rfl ?_
  refine xo_13 rfl cf_64_19 ?_
  refine cl_135_64 rfl hd_134 rfl ?_
  refine xo_1 rfl rfl ?_
  refine xo_2 rfl rfl ?_
  refine xo_13 rfl cf_64_20 ?_
  refine xo_11ge rfl (am_sp ?_ ?_ H)
  · intro hc1 H
    refine xo_2 rfl rfl ?_
    refine xo_13r rfl cr_64_17 ?_
    refine xo_1 rfl rfl ?_
    obtain ⟨hg2, H⟩ := H
    refine xo_17 rfl ca_81 hg2 ?_
    refine xo_12 rfl ?_
    refine xr_41 rfl ?_
    refine cl_136 rfl hd_134 rfl ?_
    refine xo_1 rfl rfl ?_
    refine xo_0 rfl ?_
    refine xo_11lt rfl (am_sp ?_ ?_ H)
    · intro hc3 H
      refine xo_0 rfl ?_
      refine xr_42 rfl rfl ?_
      refine xo_10 rfl (by decide) ?_
      refine xo_2 rfl rfl ?_
      refine xo_0 rfl ?_
      refine xo_14 rfl cf_64_21 ?_
      refine xo_12 rfl ?_
      refine xo_2 rfl rfl ?_
      refine xo_2 rfl rfl ?_
      refine xo_13 rfl cf_64_19 ?_
      refine xo_14 rfl cf_64_24 ?_
      refine xo_44 rfl ?_
      exact H
    · intro hc3 H
      refine xo_1 rfl rfl ?_
      refine xo_0 rfl ?_
      refine xo_11gt rfl (am_sp ?_ ?_ H)
      · intro hc4 H
        refine xo_0 rfl ?_
        refine xr_42 rfl rfl ?_
        refine xo_10 rfl (by decide) ?_
        refine xo_2 rfl rfl ?_
        refine xo_0 rfl ?_
        refine xo_14 rfl cf_64_21 ?_
        refine xo_12 rfl ?_
        refine xo_2 rfl rfl ?_
        refine xo_2 rfl rfl ?_
        refine xo_13 rfl cf_64_19 ?_
        refine xo_14 rfl cf_64_24 ?_
        refine xo_44 rfl ?_
        exact H
      · intro hc4 H
        refine xo_0 rfl ?_
        refine xo_12 rfl ?_
        refine xr_42 rfl rfl ?_
        refine xo_10n rfl (by decide) ?_
        refine xo_2 rfl rfl ?_
        refine xo_28 rfl rfl ?_
        refine xo_13 rfl cf_64_19 ?_
        refine xo_0 rfl ?_
        refine xo_7 rfl rfl ?_
        refine xo_14 rfl cf_64_19 ?_
        refine xo_12 rfl ?_
        exact H
  · intro hc1 H
    refine xo_0 rfl ?_
    refine xr_41 rfl ?_
    refine cl_136 rfl hd_134 rfl ?_
    refine xo_1 rfl rfl ?_
    refine xo_0 rfl ?_
    refine xo_11 rfl (by decide) ?_
    refine xo_0 rfl ?_
    refine xr_42 rfl rfl ?_
    refine xo_10 rfl (by decide) ?_
    refine xo_2 rfl rfl ?_
    refine xo_0 rfl ?_
    refine xo_14 rfl cf_64_21 ?_
    refine xo_12 rfl ?_
    refine xo_2 rfl rfl ?_
    refine xo_2 rfl rfl ?_
    refine xo_13 rfl cf_64_19 ?_
    refine xo_14 rfl cf_64_24 ?_
    refine xo_44 rfl ?_
    exact H
theorem sm_138 {x1 : Int32} (H : am_X L xs d 139 0 [some (.ref 64), some (.ref 65), none] [] am_C0 h o g (fun w h' o' g' => am_X L xs (d + 1) 138 8 [some (.ref 64), some (.int x1), none, none, none] (w.toList ++ []) am_C0 h' o' g' Q T) T) : am_X L xs (d + 1) 138 0 [some (.ref 64), some (.int x1), none, none, none] [] am_C0 h o g Q T := by
  refine xo_2 rfl rfl ?_
  refine xo_2 rfl rfl ?_
  refine xo_13r rfl cr_64_0 ?_
  refine cl_139_64_65 rfl hd_138 rfl ?_
  exact H
theorem sm_138_8 {x1 : Int32} {q2 : Option Value} {q3 : Option Value} {q4 : Option Value} {z0 : Int32} (hq2 : am_nl q2 = true) (hq3 : am_nl q3 = true) (hq4 : am_nl q4 = true) (H : am_X L xs d 139 0 [some (.ref 64), some (.ref 66), none] [] am_C0 h o g (fun w h' o' g' => am_X L xs (d + 1) 138 17 [some (.ref 64), some (.int x1), some (.int z0), q3, q4] (w.toList ++ []) am_C0 h' o' g' Q T) T) : am_X L xs (d + 1) 138 8 [some (.ref 64), some (.int x1), q2, q3, q4] [.int z0] am_C0 h o g Q T := by
  refine xo_4 (lv' := [some (.ref 64), some (.int x1), some (.int z0), q3, q4]) rfl rfl rfl ?_
  refine xo_2 rfl rfl ?_
  refine xo_2 rfl rfl ?_
  refine xo_13r rfl cr_64_1 ?_
  refine cl_139_64_66 rfl hd_138 rfl ?_
  exact H
theorem sm_138_17 {x1 : Int32} {x2 : Int32} {q3 : Option Value} {q4 : Option Value} {z0 : Int32} (hq3 : am_nl q3 = true) (hq4 : am_nl q4 = true) (H : am_X L xs d 140 0 [some (.ref 64), some (.ref 1000018), none, none] [] am_C0 h o g (fun w h' o' g' => am_X L xs (d + 1) 138 24 [some (.ref 64), some (.int x1), some (.int x2), some (.int z0), q4] (w.toList ++ []) am_C0 h' o' g' Q T) T) : am_X L xs (d + 1) 138 17 [some (.ref 64), some (.int x1), some (.int x2), q3, q4] [.int z0] am_C0 h o g Q T := by
  refine xo_4 (lv' := [some (.ref 64), some (.int x1), some (.int x2), some (.int z0), q4]) rfl rfl rfl ?_
  refine xo_2 rfl rfl ?_
  refine xo_46 (k := 1000018) rfl rfl ?_
  refine cl_140_s rfl hd_138 rfl ?_
  exact H
theorem sm_138_24 {x1 : Int32} {x2 : Int32} {x3 : Int32} {q4 : Option Value} {z0 : Int32} (hq4 : am_nl q4 = true) (H : (if z0 = 0 then am_X L xs d 140 0 [some (.ref 64), some (.ref 1000020), none, none] [] am_C0 h o g (fun w h' o' g' => am_X L xs (d + 1) 138 40 [some (.ref 64), some (.int x1), some (.int x2), some (.int x3), q4] (w.toList ++ []) am_C0 h' o' g' Q T) T else am_X L xs d 141 0 [some (.ref 64), none] [] am_C0 h o g (fun w h' o' g' => am_X L xs (d + 1) 138 31 [some (.ref 64), some (.int x1), some (.int x2), some (.int x3), q4] (w.toList ++ []) am_C0 h' o' g' Q T) T)) : am_X L xs (d + 1) 138 24 [some (.ref 64), some (.int x1), some (.int x2), some (.int x3), q4] [.int z0] am_C0 h o g Q T := by
  refine xo_10eq rfl (am_sp ?_ ?_ H)
  · intro hc1 H
    refine xo_2 rfl rfl ?_
    refine xo_46 (k := 1000020) rfl rfl ?_
    refine cl_140_s rfl hd_138 rfl ?_
    exact H
  · intro hc1 H
    refine xo_2 rfl rfl ?_
    refine cl_141_64 rfl hd_138 rfl ?_
    exact H
theorem sm_138_40 {x1 : Int32} {x2 : Int32} {x3 : Int32} {q4 : Option Value} {z0 : Int32} (hq4 : am_nl q4 = true) (H : (if z0 = 0 then (if x2 = (-1) then (if x3 = (-1) then (if (h 64 25) = 0 then am_X L xs d 144 0 [some (.ref 64), some (.int 0), some (.int 0), none] [] am_C0 (am_set (am_set h 64 25 1) 64 26 (h 64 23)) o g (fun w h' o' g' => am_X L xs (d + 1) 138 124 [some (.ref 64), some (.int x1), some (.int x2), some (.int x3), q4] (w.toList ++ []) am_C0 h' o' g' Q T) T else am_X L xs d 144 0 [some (.ref 64), some (.int 0), some (.int 0), none] [] am_C0 h o g (fun w h' o' g' => am_X L xs (d + 1) 138 124 [some (.ref 64), some (.int x1), some (.int x2), some (.int x3), q4] (w.toList ++ []) am_C0 h' o' g' Q T) T) else (if ((x1 >>> (x3 &&& 31)) &&& 1) = 1 then (if (h 64 25) = 0 then (am_ix x3 4 ∧ am_X L xs d 144 0 [some (.ref 64), some (.int 0), some (.int (h 67 x3.toNatClampNeg)), none] [] am_C0 (am_set (am_set h 64 25 3) 64 26 (h 64 23)) o g (fun w h' o' g' => am_X L xs (d + 1) 138 124 [some (.ref 64), some (.int x1), some (.int x2), some (.int x3), q4] (w.toList ++ []) am_C0 h' o' g' Q T) T) else (am_ix x3 4 ∧ am_X L xs d 144 0 [some (.ref 64), some (.int 0), some (.int (h 67 x3.toNatClampNeg)), none] [] am_C0 h o g (fun w h' o' g' => am_X L xs (d + 1) 138 124 [some (.ref 64), some (.int x1), some (.int x2), some (.int x3), q4] (w.toList ++ []) am_C0 h' o' g' Q T) T)) else (if (h 64 25) = 0 then am_X L xs d 134 0 [some (.ref 64), none] [] am_C0 h o g (fun w h' o' g' => am_X L xs (d + 1) 138 104 [some (.ref 64), some (.int x1), some (.int x2), some (.int x3), q4] (w.toList ++ []) am_C0 h' o' g' Q T) T else (am_ix x3 4 ∧ am_X L xs d 144 0 [some (.ref 64), some (.int 0), some (.int (h 67 x3.toNatClampNeg)), none] [] am_C0 h o g (fun w h' o' g' => am_X L xs (d + 1) 138 124 [some (.ref 64), some (.int x1), some (.int x2), some (.int x3), q4] (w.toList ++ []) am_C0 h' o' g' Q T) T)))) else am_X L xs d 146 0 [some (.ref 64), some (.int x2), none] [] am_C0 h o g (fun w h' o' g' => am_X L xs (d + 1) 138 63 [some (.ref 64), some (.int x1), some (.int x2), some (.int x3), q4] (w.toList ++ []) am_C0 h' o' g' Q T) T) else am_X L xs d 142 0 [some (.ref 64), some (.int 1), some (.int 4)] [] am_C0 h o g (fun w h' o' g' => am_X L xs (d + 1) 138 49 [some (.ref 64), some (.int x1), some (.int x2), some (.int x3), q4] (w.toList ++ []) am_C0 h' o' g' Q T) T)) : am_X L xs (d + 1) 138 40 [some (.ref 64), some (.int x1), some (.int x2), some (.int x3), q4] [.int z0] am_C0 h o g Q T := by
  refine xo_10eq rfl (am_sp ?_ ?_ H)
  · intro hc1 H
    refine xo_1 rfl rfl ?_
    refine xo_0 rfl ?_
    refine xo_11eq rfl (am_sp ?_ ?_ H)
    · intro hc2 H
      refine xo_1 rfl rfl ?_
      refine xo_0 rfl ?_
      refine xo_11ne rfl (am_sp ?_ ?_ H)
      · intro hc3 H
        refine xo_2 rfl rfl ?_
        refine xo_0 rfl ?_
        refine cl_143_64 rfl hd_138 rfl ?_
        refine xo_2 rfl rfl ?_
        refine xo_13 rfl cf_64_25 ?_
        refine xo_10eq rfl (am_sp ?_ ?_ H)
        · intro hc4 H
          refine xo_2 rfl rfl ?_
          refine xo_1 rfl rfl ?_
          refine xo_14 rfl cf_64_25 ?_
          refine xo_2 rfl rfl ?_
          refine xo_2 rfl rfl ?_
          refine xo_13 rfl cf_64_23 ?_
          refine xo_14 rfl cf_64_26 ?_
          refine xr_44 rfl ?_
          refine xo_12 rfl ?_
          refine xo_2 rfl rfl ?_
          refine xo_13 rfl cf_64_25 ?_
          show am_X L xs (d + 1) 138 97 [some (.ref 64), some (.int x1), some (.int x2), some (.int x3), q4] [.int 1] am_C0 (am_set (am_set h 64 25 1) 64 26 (h 64 23)) o g Q T
          refine xo_10 rfl (by decide) ?_
          refine xo_2 rfl rfl ?_
          refine xo_0 rfl ?_
          refine xo_1 rfl rfl ?_
          refine xo_0 rfl ?_
          refine xo_11ne rfl (am_ift hc3 ?_)
          refine xo_0 rfl ?_
          refine xo_12 rfl ?_
          refine cl_144_64 rfl hd_138 rfl ?_
          exact H
        · intro hc4 H
          refine xr_44 rfl ?_
          refine xo_12 rfl ?_
          refine xo_2 rfl rfl ?_
          refine xo_13 rfl cf_64_25 ?_
          refine xo_10ne rfl (am_iff hc4 ?_)
          refine xo_2 rfl rfl ?_
          refine xo_0 rfl ?_
          refine xo_1 rfl rfl ?_
          refine xo_0 rfl ?_
          refine xo_11ne rfl (am_ift hc3 ?_)
          refine xo_0 rfl ?_
          refine xo_12 rfl ?_
          refine cl_144_64 rfl hd_138 rfl ?_
          exact H
      · intro hc3 H
        refine xo_1 rfl rfl ?_
        refine xo_1 rfl rfl ?_
        refine xo_7 rfl rfl ?_
        refine xo_0 rfl ?_
        refine xo_7 rfl rfl ?_
        refine xo_0 rfl ?_
        refine xo_11ne rfl (am_sp ?_ ?_ H)
        · intro hc5 H
          refine xo_2 rfl rfl ?_
          refine xo_0 rfl ?_
          refine cl_143_64 rfl hd_138 rfl ?_
          refine xo_2 rfl rfl ?_
          refine xo_13 rfl cf_64_25 ?_
          refine xo_10eq rfl (am_sp ?_ ?_ H)
          · intro hc6 H
            refine xo_2 rfl rfl ?_
            refine xo_1 rfl rfl ?_
            refine xo_14 rfl cf_64_25 ?_
            refine xo_2 rfl rfl ?_
            refine xo_2 rfl rfl ?_
            refine xo_13 rfl cf_64_23 ?_
            refine xo_14 rfl cf_64_26 ?_
            refine xr_44 rfl ?_
            refine xo_2 rfl rfl ?_
            refine xo_13 rfl cf_64_25 ?_
            show am_X L xs (d + 1) 138 97 [some (.ref 64), some (.int x1), some (.int x2), some (.int x3), q4] [.int 3] am_C0 (am_set (am_set h 64 25 3) 64 26 (h 64 23)) o g Q T
            refine xo_10 rfl (by decide) ?_
            refine xo_2 rfl rfl ?_
            refine xo_0 rfl ?_
            refine xo_1 rfl rfl ?_
            refine xo_0 rfl ?_
            refine xo_11ne rfl (am_iff hc3 ?_)
            refine xo_2 rfl rfl ?_
            refine xo_13r rfl cr_64_2 ?_
            refine xo_1 rfl rfl ?_
            obtain ⟨hg7, H⟩ := H
            refine xo_17 rfl ca_67 hg7 ?_
            refine cl_144_64 rfl hd_138 rfl ?_
            exact H
          · intro hc6 H
            refine xr_44 rfl ?_
            refine xo_2 rfl rfl ?_
            refine xo_13 rfl cf_64_25 ?_
            refine xo_10ne rfl (am_iff hc6 ?_)
            refine xo_2 rfl rfl ?_
            refine xo_0 rfl ?_
            refine xo_1 rfl rfl ?_
            refine xo_0 rfl ?_
            refine xo_11ne rfl (am_iff hc3 ?_)
            refine xo_2 rfl rfl ?_
            refine xo_13r rfl cr_64_2 ?_
            refine xo_1 rfl rfl ?_
            obtain ⟨hg8, H⟩ := H
            refine xo_17 rfl ca_67 hg8 ?_
            refine cl_144_64 rfl hd_138 rfl ?_
            exact H
        · intro hc5 H
          refine xo_2 rfl rfl ?_
          refine xo_13 rfl cf_64_25 ?_
          refine xo_10ne rfl (am_sp ?_ ?_ H)
          · intro hc9 H
            refine xo_2 rfl rfl ?_
            refine cl_134_64 rfl hd_138 rfl ?_
            exact H
          · intro hc9 H
            refine xo_2 rfl rfl ?_
            refine xo_0 rfl ?_
            refine xo_1 rfl rfl ?_
            refine xo_0 rfl ?_
            refine xo_11ne rfl (am_iff hc3 ?_)
            refine xo_2 rfl rfl ?_
            refine xo_13r rfl cr_64_2 ?_
            refine xo_1 rfl rfl ?_
            obtain ⟨hg10, H⟩ := H
            refine xo_17 rfl ca_67 hg10 ?_
            refine cl_144_64 rfl hd_138 rfl ?_
            exact H
    · intro hc2 H
      refine xo_2 rfl rfl ?_
      refine xo_1 rfl rfl ?_
      refine cl_146_64 rfl hd_138 rfl ?_
      exact H
  · intro hc1 H
    refine xo_2 rfl rfl ?_
    refine xo_0 rfl ?_
    refine xo_0 rfl ?_
    refine cl_142_64 rfl hd_138 rfl ?_
    exact H
theorem sm_138_31 {x1 : Int32} {q2 : Option Value} {x3 : Int32} {q4 : Option Value} (hq2 : am_nl q2 = true) (hq4 : am_nl q4 = true) (H : (if (h 64 25) = 0 then (if (h 64 21) = 3 then am_X L xs d 134 0 [some (.ref 64), none] [] am_C0 h o g (fun w h' o' g' => am_X L xs (d + 1) 138 173 [some (.ref 64), some (.int x1), q2, some (.int x3), q4] (w.toList ++ []) am_C0 h' o' g' Q T) T else (if x3 = (-1) then Q (some (.int x1)) (am_set (am_set h 64 25 1) 64 26 (h 64 23)) o g else Q (some (.int (x1 ||| (1 <<< (x3 &&& 31))))) (am_set (am_set h 64 25 1) 64 26 (h 64 23)) o g)) else (if x3 = (-1) then Q (some (.int x1)) h o g else Q (some (.int (x1 ||| (1 <<< (x3 &&& 31))))) h o g))) : am_X L xs (d + 1) 138 31 [some (.ref 64), some (.int x1), q2, some (.int x3), q4] [] am_C0 h o g Q T := by
  refine xo_12 rfl ?_
  refine xo_2 rfl rfl ?_
  refine xo_13 rfl cf_64_25 ?_
  refine xo_10ne rfl (am_sp ?_ ?_ H)
  · intro hc1 H
    refine xo_2 rfl rfl ?_
    refine xo_13 rfl cf_64_21 ?_
    refine xo_0 rfl ?_
    refine xo_11eq rfl (am_sp ?_ ?_ H)
    · intro hc2 H
      refine xo_2 rfl rfl ?_
      refine xo_13 rfl cf_64_25 ?_
      refine xo_10ne rfl (am_ift hc1 ?_)
      refine xo_2 rfl rfl ?_
      refine cl_134_64 rfl hd_138 rfl ?_
      exact H
    · intro hc2 H
      refine xo_2 rfl rfl ?_
      refine xo_0 rfl ?_
      refine cl_143_64 rfl hd_138 rfl ?_
      refine xo_2 rfl rfl ?_
      refine xo_13 rfl cf_64_25 ?_
      refine xo_10eq rfl (am_ift hc1 ?_)
      refine xo_2 rfl rfl ?_
      refine xo_1 rfl rfl ?_
      refine xo_14 rfl cf_64_25 ?_
      refine xo_2 rfl rfl ?_
      refine xo_2 rfl rfl ?_
      refine xo_13 rfl cf_64_23 ?_
      refine xo_14 rfl cf_64_26 ?_
      refine xr_44 rfl ?_
      refine xo_2 rfl rfl ?_
      refine xo_13 rfl cf_64_25 ?_
      show am_X L xs (d + 1) 138 166 [some (.ref 64), some (.int x1), q2, some (.int x3), q4] [.int 1] am_C0 (am_set (am_set h 64 25 1) 64 26 (h 64 23)) o g Q T
      refine xo_10 rfl (by decide) ?_
      refine xo_1 rfl rfl ?_
      refine xo_0 rfl ?_
      refine xo_11ne rfl (am_sp ?_ ?_ H)
      · intro hc3 H
        refine xo_1 rfl rfl ?_
        refine xo_12 rfl ?_
        refine xo_41 rfl ?_
        exact H
      · intro hc3 H
        refine xo_1 rfl rfl ?_
        refine xo_0 rfl ?_
        refine xo_1 rfl rfl ?_
        refine xo_7 rfl rfl ?_
        refine xo_7 rfl rfl ?_
        refine xo_41 rfl ?_
        exact H
  · intro hc1 H
    refine xo_2 rfl rfl ?_
    refine xo_13 rfl cf_64_25 ?_
    refine xo_10ne rfl (am_iff hc1 ?_)
    refine xo_1 rfl rfl ?_
    refine xo_0 rfl ?_
    refine xo_11ne rfl (am_sp ?_ ?_ H)
    · intro hc4 H
      refine xo_1 rfl rfl ?_
      refine xo_12 rfl ?_
      refine xo_41 rfl ?_
      exact H
    · intro hc4 H
      refine xo_1 rfl rfl ?_
      refine xo_0 rfl ?_
      refine xo_1 rfl rfl ?_
      refine xo_7 rfl rfl ?_
      refine xo_7 rfl rfl ?_
      refine xo_41 rfl ?_
      exact H
