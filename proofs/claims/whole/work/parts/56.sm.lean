/-! ===== what the methods do, piece by piece (written by wip/gen/gen_wp.py) ===== -/
variable {L : Nat} {xs : Nat → Int32} {d : Nat} {h : am_M} {o : am_L} {g : Nat} {Q : Option Value → am_M → am_L → Nat → Prop} {T : Nat → am_M → am_L → Nat → Prop}
theorem sm_186_41 {q0 : Option Value} {q1 : Option Value} {q2 : Option Value} {q3 : Option Value} {q4 : Option Value} {z0 : Int32} (hq0 : am_nl q0 = true) (hq1 : am_nl q1 = true) (hq2 : am_nl q2 = true) (hq3 : am_nl q3 = true) (hq4 : am_nl q4 = true) (H : (am_bit z0 = true ∧ Q (some (.int z0)) h o g)) : am_X L xs d 186 41 [q0, q1, q2, q3, q4] [.int z0] am_C0 h o g Q T := by
  obtain ⟨hg1, H⟩ := H
  refine xo_42 rfl hg1 ?_
  exact H
theorem sm_186_44 {x1 : Int32} {x2 : Int32} {q3 : Option Value} {q4 : Option Value} (hq3 : am_nl q3 = true) (hq4 : am_nl q4 = true) (H : (if (h 68 5) < x2 then Q (some (.int 0)) h o g else (am_ix x1 5 ∧ (am_ix (fn_183 x1 (h 89 x1.toNatClampNeg) x2) 75 ∧ (if (h 88 ((fn_183 x1 (h 89 x1.toNatClampNeg) x2).toNatClampNeg)) = 0 then am_X L xs (d + 1) 186 44 [some (.ref 64), some (.int x1), some (.int (x2 + 1)), q3, q4] [] am_C0 h o g Q T else am_X L xs (d + 1) 186 88 [some (.ref 64), some (.int x1), some (.int x2), some (.int 1), some (.int 0)] [] am_C0 (am_set h 90 x1.toNatClampNeg x2) o g Q T))))) : am_X L xs (d + 1) 186 44 [some (.ref 64), some (.int x1), some (.int x2), q3, q4] [] am_C0 h o g Q T := by
  refine xo_1 rfl rfl ?_
  refine xo_2 rfl rfl ?_
  refine xo_13r rfl cr_64_4 ?_
  refine xo_0 rfl ?_
  refine xo_17 rfl ca_68 (am_ix.lit rfl) ?_
  refine xo_11gt rfl (am_sp ?_ ?_ H)
  · intro hc1 H
    refine xo_0 rfl ?_
    refine xo_42 rfl rfl ?_
    exact H
  · intro hc1 H
    refine xo_2 rfl rfl ?_
    refine xo_13r rfl cr_64_37 ?_
    refine xo_1 rfl rfl ?_
    refine xo_2 rfl rfl ?_
    refine xo_13r rfl cr_64_38 ?_
    refine xo_1 rfl rfl ?_
    obtain ⟨hg2, H⟩ := H
    refine xo_17 rfl ca_89 hg2 ?_
    refine xo_1 rfl rfl ?_
    refine cl_183 rfl hd_186 rfl (sf_183 ?_)
    show am_X L xs (d + 1) 186 69 [some (.ref 64), some (.int x1), some (.int x2), q3, q4] [.int (fn_183 x1 (h 89 x1.toNatClampNeg) x2), .ref 88] am_C0 h o g Q T
    obtain ⟨hg3, H⟩ := H
    refine xo_18b rfl ca_88 hg3 ?_
    refine xo_10ne rfl (am_sp ?_ ?_ H)
    · intro hc4 H
      refine xo_12 rfl ?_
      refine xo_9 (z := (x2 + 1)) (lv' := [some (.ref 64), some (.int x1), some (.int (x2 + 1)), q3, q4]) rfl rfl rfl rfl rfl ?_
      refine xo_12 rfl ?_
      exact H
    · intro hc4 H
      refine xo_2 rfl rfl ?_
      refine xo_13r rfl cr_64_39 ?_
      refine xo_1 rfl rfl ?_
      refine xo_1 rfl rfl ?_
      refine xo_22 rfl ca_90 hg2 ?_
      refine xo_0 rfl ?_
      refine xo_4 (lv' := [some (.ref 64), some (.int x1), some (.int x2), some (.int 1), q4]) rfl rfl rfl ?_
      refine xo_0 rfl ?_
      refine xo_4 (lv' := [some (.ref 64), some (.int x1), some (.int x2), some (.int 1), some (.int 0)]) rfl rfl rfl ?_
      exact H
theorem sm_186_88 {x1 : Int32} {x2 : Int32} {x3 : Int32} {x4 : Int32} (H : (if x4 < x1 then (if x3 = 0 then am_X L xs (d + 1) 186 44 [some (.ref 64), some (.int x1), some (.int (x2 + 1)), some (.int x3), some (.int x4)] [] am_C0 h o g Q T else (am_ix x4 5 ∧ (am_ix x1 5 ∧ (if (h 89 x4.toNatClampNeg) = (h 89 x1.toNatClampNeg) then (am_ix x4 10 ∧ (am_ix x1 10 ∧ (if ((h 71 x4.toNatClampNeg) + (h 90 x4.toNatClampNeg)) < (((h 71 x1.toNatClampNeg) + (h 90 x1.toNatClampNeg)) + (h 72 x1.toNatClampNeg)) then (if ((h 71 x1.toNatClampNeg) + (h 90 x1.toNatClampNeg)) < (((h 71 x4.toNatClampNeg) + (h 90 x4.toNatClampNeg)) + (h 72 x4.toNatClampNeg)) then am_X L xs (d + 1) 186 88 [some (.ref 64), some (.int x1), some (.int x2), some (.int 0), some (.int (x4 + 1))] [] am_C0 h o g Q T else am_X L xs (d + 1) 186 88 [some (.ref 64), some (.int x1), some (.int x2), some (.int 1), some (.int (x4 + 1))] [] am_C0 h o g Q T) else am_X L xs (d + 1) 186 88 [some (.ref 64), some (.int x1), some (.int x2), some (.int 1), some (.int (x4 + 1))] [] am_C0 h o g Q T))) else am_X L xs (d + 1) 186 88 [some (.ref 64), some (.int x1), some (.int x2), some (.int 1), some (.int (x4 + 1))] [] am_C0 h o g Q T)))) else (if x3 = 0 then am_X L xs (d + 1) 186 44 [some (.ref 64), some (.int x1), some (.int (x2 + 1)), some (.int x3), some (.int x4)] [] am_C0 h o g Q T else am_X L xs d 186 0 [some (.ref 64), some (.int (x1 + 1)), none, none, none] [] am_C0 h o g (fun w h' o' g' => am_X L xs (d + 1) 186 147 [some (.ref 64), some (.int x1), some (.int x2), some (.int x3), some (.int x4)] (w.toList ++ []) am_C0 h' o' g' Q T) T))) : am_X L xs (d + 1) 186 88 [some (.ref 64), some (.int x1), some (.int x2), some (.int x3), some (.int x4)] [] am_C0 h o g Q T := by
  refine xo_1 rfl rfl ?_
  refine xo_1 rfl rfl ?_
  refine xo_11ge rfl (am_sp ?_ ?_ H)
  · intro hc1 H
    refine xo_1 rfl rfl ?_
    refine xo_10eq rfl (am_sp ?_ ?_ H)
    · intro hc2 H
      refine xo_1 rfl rfl ?_
      refine xo_10eq rfl (am_ift hc2 ?_)
      refine xo_9 (z := (x2 + 1)) (lv' := [some (.ref 64), some (.int x1), some (.int (x2 + 1)), some (.int x3), some (.int x4)]) rfl rfl rfl rfl rfl ?_
      refine xo_12 rfl ?_
      exact H
    · intro hc2 H
      refine xo_2 rfl rfl ?_
      refine xo_13r rfl cr_64_38 ?_
      refine xo_1 rfl rfl ?_
      obtain ⟨hg3, H⟩ := H
      refine xo_17 rfl ca_89 hg3 ?_
      refine xo_2 rfl rfl ?_
      refine xo_13r rfl cr_64_38 ?_
      refine xo_1 rfl rfl ?_
      obtain ⟨hg4, H⟩ := H
      refine xo_17 rfl ca_89 hg4 ?_
      refine xo_11ne rfl (am_sp ?_ ?_ H)
      · intro hc5 H
        refine xo_2 rfl rfl ?_
        refine xo_1 rfl rfl ?_
        refine xo_1 rfl rfl ?_
        refine cl_187_64 rfl hd_186 rfl ?_
        refine xo_2 rfl rfl ?_
        refine xo_13r rfl cr_64_7 ?_
        refine xo_1 rfl rfl ?_
        obtain ⟨hg6, H⟩ := H
        refine xo_17 rfl ca_71 hg6 ?_
        refine xo_2 rfl rfl ?_
        refine xo_13r rfl cr_64_39 ?_
        refine xo_1 rfl rfl ?_
        refine xo_17 rfl ca_90 hg3 ?_
        refine xo_7 rfl rfl ?_
        refine xo_4 (lv' := [some (.ref 64), some (.int x4), some (.int x1), some (.int ((h 71 x4.toNatClampNeg) + (h 90 x4.toNatClampNeg))), none]) rfl rfl rfl ?_
        refine xo_2 rfl rfl ?_
        refine xo_13r rfl cr_64_7 ?_
        refine xo_1 rfl rfl ?_
        obtain ⟨hg7, H⟩ := H
        refine xo_17 rfl ca_71 hg7 ?_
        refine xo_2 rfl rfl ?_
        refine xo_13r rfl cr_64_39 ?_
        refine xo_1 rfl rfl ?_
        refine xo_17 rfl ca_90 hg4 ?_
        refine xo_7 rfl rfl ?_
        refine xo_4 (lv' := [some (.ref 64), some (.int x4), some (.int x1), some (.int ((h 71 x4.toNatClampNeg) + (h 90 x4.toNatClampNeg))), some (.int ((h 71 x1.toNatClampNeg) + (h 90 x1.toNatClampNeg)))]) rfl rfl rfl ?_
        refine xo_1 rfl rfl ?_
        refine xo_1 rfl rfl ?_
        refine xo_2 rfl rfl ?_
        refine xo_13r rfl cr_64_8 ?_
        refine xo_1 rfl rfl ?_
        refine xo_17 rfl ca_72 hg7 ?_
        refine xo_7 rfl rfl ?_
        refine xo_11ge rfl (am_sp ?_ ?_ H)
        · intro hc8 H
          refine xo_1 rfl rfl ?_
          refine xo_1 rfl rfl ?_
          refine xo_2 rfl rfl ?_
          refine xo_13r rfl cr_64_8 ?_
          refine xo_1 rfl rfl ?_
          refine xo_17 rfl ca_72 hg6 ?_
          refine xo_7 rfl rfl ?_
          refine xo_11ge rfl (am_sp ?_ ?_ H)
          · intro hc9 H
            refine xo_0 rfl ?_
            refine xo_12 rfl ?_
            refine xr_42 rfl rfl ?_
            refine xo_10 rfl (by decide) ?_
            refine xo_0 rfl ?_
            refine xo_4 (lv' := [some (.ref 64), some (.int x1), some (.int x2), some (.int 0), some (.int x4)]) rfl rfl rfl ?_
            refine xo_9 (z := (x4 + 1)) (lv' := [some (.ref 64), some (.int x1), some (.int x2), some (.int 0), some (.int (x4 + 1))]) rfl rfl rfl rfl rfl ?_
            refine xo_12 rfl ?_
            exact H
          · intro hc9 H
            refine xo_0 rfl ?_
            refine xr_42 rfl rfl ?_
            refine xo_10n rfl (by decide) ?_
            refine xo_0 rfl ?_
            refine xo_12 rfl ?_
            refine xo_4 (lv' := [some (.ref 64), some (.int x1), some (.int x2), some (.int 1), some (.int x4)]) rfl rfl rfl ?_
            refine xo_9 (z := (x4 + 1)) (lv' := [some (.ref 64), some (.int x1), some (.int x2), some (.int 1), some (.int (x4 + 1))]) rfl rfl rfl rfl rfl ?_
            refine xo_12 rfl ?_
            exact H
        · intro hc8 H
          refine xo_0 rfl ?_
          refine xr_42 rfl rfl ?_
          refine xo_10n rfl (by decide) ?_
          refine xo_0 rfl ?_
          refine xo_12 rfl ?_
          refine xo_4 (lv' := [some (.ref 64), some (.int x1), some (.int x2), some (.int 1), some (.int x4)]) rfl rfl rfl ?_
          refine xo_9 (z := (x4 + 1)) (lv' := [some (.ref 64), some (.int x1), some (.int x2), some (.int 1), some (.int (x4 + 1))]) rfl rfl rfl rfl rfl ?_
          refine xo_12 rfl ?_
          exact H
      · intro hc5 H
        refine xo_0 rfl ?_
        refine xo_12 rfl ?_
        refine xo_4 (lv' := [some (.ref 64), some (.int x1), some (.int x2), some (.int 1), some (.int x4)]) rfl rfl rfl ?_
        refine xo_9 (z := (x4 + 1)) (lv' := [some (.ref 64), some (.int x1), some (.int x2), some (.int 1), some (.int (x4 + 1))]) rfl rfl rfl rfl rfl ?_
        refine xo_12 rfl ?_
        exact H
  · intro hc1 H
    refine xo_1 rfl rfl ?_
    refine xo_10eq rfl (am_sp ?_ ?_ H)
    · intro hc10 H
      refine xo_9 (z := (x2 + 1)) (lv' := [some (.ref 64), some (.int x1), some (.int (x2 + 1)), some (.int x3), some (.int x4)]) rfl rfl rfl rfl rfl ?_
      refine xo_12 rfl ?_
      exact H
    · intro hc10 H
      refine xo_2 rfl rfl ?_
      refine xo_1 rfl rfl ?_
      refine xo_0 rfl ?_
      refine xo_7 rfl rfl ?_
      refine cl_186_64 rfl hd_186 rfl ?_
      exact H
theorem sm_186_147 {x1 : Int32} {x2 : Int32} {q3 : Option Value} {q4 : Option Value} {z0 : Int32} (hq3 : am_nl q3 = true) (hq4 : am_nl q4 = true) (H : (if z0 = 0 then am_X L xs d 186 44 [some (.ref 64), some (.int x1), some (.int (x2 + 1)), q3, q4] [] am_C0 h o g Q T else Q (some (.int 1)) h o g)) : am_X L xs d 186 147 [some (.ref 64), some (.int x1), some (.int x2), q3, q4] [.int z0] am_C0 h o g Q T := by
  refine xo_10eq rfl (am_sp ?_ ?_ H)
  · intro hc1 H
    refine xo_9 (z := (x2 + 1)) (lv' := [some (.ref 64), some (.int x1), some (.int (x2 + 1)), q3, q4]) rfl rfl rfl rfl rfl ?_
    refine xo_12 rfl ?_
    exact H
  · intro hc1 H
    refine xo_0 rfl ?_
    refine xo_42 rfl rfl ?_
    exact H
theorem sm_189 {x1 : Int32} {x2 : Int32} (H : (if x1 < 0 then Q (some (.int 0)) (am_set (am_set h 64 3 0) 64 3 1) o g else (if ((h 68 0) - 1) < x1 then Q (some (.int 0)) (am_set (am_set h 64 3 0) 64 3 1) o g else (if (h 64 45) = 0 then Q (some (.int 0)) (am_set (am_set h 64 3 0) 64 3 1) o g else (if x2 = 0 then (am_ix x1 5 ∧ Q (some (.int (h 93 x1.toNatClampNeg))) (am_set h 64 3 0) o g) else (if x2 = 1 then (am_ix x1 5 ∧ Q (some (.int (h 94 x1.toNatClampNeg))) (am_set h 64 3 0) o g) else Q (some (.int 0)) (am_set (am_set h 64 3 0) 64 3 1) o g)))))) : am_X L xs (d + 2) 189 0 [some (.ref 64), some (.int x1), some (.int x2)] [] am_C0 h o g Q T := by
  refine xo_2 rfl rfl ?_
  refine xo_0 rfl ?_
  refine xo_14 rfl cf_64_3 ?_
  refine xo_2 rfl rfl ?_
  refine xo_1 rfl rfl ?_
  refine cl_152_64 rfl hd_189 rfl ?_
  refine xo_1 rfl rfl ?_
  refine xo_0 rfl ?_
  refine xo_2 rfl rfl ?_
  refine xo_13r rfl cr_64_4 ?_
  refine xo_0 rfl ?_
  refine xo_17 rfl ca_68 (am_ix.lit rfl) ?_
  refine xo_0 rfl ?_
  refine xo_7 rfl rfl ?_
  refine cl_150 rfl hd_152 rfl ?_
  refine xo_1 rfl rfl ?_
  refine xo_1 rfl rfl ?_
  refine xo_11lt rfl (am_sp ?_ ?_ H)
  · intro hc1 H
    refine xo_0 rfl ?_
    refine xr_42 rfl rfl ?_
    refine xr_42 rfl rfl ?_
    refine xo_10 rfl (by decide) ?_
    refine xo_2 rfl rfl ?_
    refine xo_0 rfl ?_
    refine cl_133_64 rfl hd_189 rfl ?_
    refine xo_2 rfl rfl ?_
    refine xo_1 rfl rfl ?_
    refine xo_14 rfl cf_64_3 ?_
    refine xo_0 rfl ?_
    refine xr_41 rfl ?_
    refine xo_41 rfl ?_
    exact H
  · intro hc1 H
    refine xo_1 rfl rfl ?_
    refine xo_1 rfl rfl ?_
    refine xo_11gt rfl (am_sp ?_ ?_ H)
    · intro hc2 H
      refine xo_0 rfl ?_
      refine xr_42 rfl rfl ?_
      refine xr_42 rfl rfl ?_
      refine xo_10 rfl (by decide) ?_
      refine xo_2 rfl rfl ?_
      refine xo_0 rfl ?_
      refine cl_133_64 rfl hd_189 rfl ?_
      refine xo_2 rfl rfl ?_
      refine xo_1 rfl rfl ?_
      refine xo_14 rfl cf_64_3 ?_
      refine xo_0 rfl ?_
      refine xr_41 rfl ?_
      refine xo_41 rfl ?_
      exact H
    · intro hc2 H
      refine xo_0 rfl ?_
      refine xo_12 rfl ?_
      refine xr_42 rfl rfl ?_
      refine xr_42 rfl rfl ?_
      refine xo_10n rfl (by decide) ?_
      refine xo_2 rfl rfl ?_
      refine xo_13 rfl cf_64_45 ?_
      refine xo_10ne rfl (am_sp ?_ ?_ H)
      · intro hc3 H
        refine xo_2 rfl rfl ?_
        refine xo_0 rfl ?_
        refine cl_133_64 rfl hd_189 rfl ?_
        refine xo_2 rfl rfl ?_
        refine xo_1 rfl rfl ?_
        refine xo_14 rfl cf_64_3 ?_
        refine xo_0 rfl ?_
        refine xr_41 rfl ?_
        refine xo_41 rfl ?_
        exact H
      · intro hc3 H
        refine xo_1 rfl rfl ?_
        refine xo_10ne rfl (am_sp ?_ ?_ H)
        · intro hc4 H
          refine xo_2 rfl rfl ?_
          refine xo_13r rfl cr_64_42 ?_
          refine xo_1 rfl rfl ?_
          obtain ⟨hg5, H⟩ := H
          refine xo_17 rfl ca_93 hg5 ?_
          refine xo_12 rfl ?_
          refine xo_41 rfl ?_
          exact H
        · intro hc4 H
          refine xo_1 rfl rfl ?_
          refine xo_0 rfl ?_
          refine xo_11ne rfl (am_sp ?_ ?_ H)
          · intro hc6 H
            refine xo_2 rfl rfl ?_
            refine xo_13r rfl cr_64_43 ?_
            refine xo_1 rfl rfl ?_
            obtain ⟨hg7, H⟩ := H
            refine xo_17 rfl ca_94 hg7 ?_
            refine xo_12 rfl ?_
            refine xo_41 rfl ?_
            exact H
          · intro hc6 H
            refine xo_2 rfl rfl ?_
            refine xo_0 rfl ?_
            refine cl_133_64 rfl hd_189 rfl ?_
            refine xo_2 rfl rfl ?_
            refine xo_1 rfl rfl ?_
            refine xo_14 rfl cf_64_3 ?_
            refine xo_0 rfl ?_
            refine xr_41 rfl ?_
            refine xo_41 rfl ?_
            exact H
theorem sm_190 {x1 : Int32} {x2 : Int32} {x3 : Int32} {x4 : Int32} (H : (if x1 < 0 then Q (some (.int 0)) (am_set (am_set h 64 3 0) 64 3 1) o g else (if ((h 68 1) - 1) < x1 then Q (some (.int 0)) (am_set (am_set h 64 3 0) 64 3 1) o g else (if x2 < 0 then Q (some (.int 0)) (am_set (am_set h 64 3 0) 64 3 1) o g else (if ((h 68 0) - 1) < x2 then Q (some (.int 0)) (am_set (am_set h 64 3 0) 64 3 1) o g else (if x4 < 0 then Q (some (.int 0)) (am_set (am_set h 64 3 0) 64 3 1) o g else (if 1 < x4 then Q (some (.int 0)) (am_set (am_set h 64 3 0) 64 3 1) o g else (if x3 < 1 then Q (some (.int 0)) (am_set (am_set h 64 3 0) 64 3 2) o g else (if 60 < x3 then Q (some (.int 0)) (am_set (am_set h 64 3 0) 64 3 2) o g else am_X L xs (d + 1) 172 0 [some (.ref 64), some (.int x1), some (.int x2), some (.int (h 64 28)), some (.int (-1)), none] [] am_C0 (am_set h 64 3 0) o g (fun w h' o' g' => am_X L xs (d + 2) 190 64 [some (.ref 64), some (.int x1), some (.int x2), some (.int x3), some (.int x4), none, none, none] (w.toList ++ []) am_C0 h' o' g' Q T) T))))))))) : am_X L xs (d + 2) 190 0 [some (.ref 64), some (.int x1), some (.int x2), some (.int x3), some (.int x4), none, none, none] [] am_C0 h o g Q T := by
  refine xo_2 rfl rfl ?_
  refine xo_0 rfl ?_
  refine xo_14 rfl cf_64_3 ?_
  refine xo_2 rfl rfl ?_
  refine xo_1 rfl rfl ?_
  refine cl_157_64 rfl hd_190 rfl ?_
  refine xo_1 rfl rfl ?_
  refine xo_0 rfl ?_
  refine xo_2 rfl rfl ?_
  refine xo_13r rfl cr_64_4 ?_
  refine xo_0 rfl ?_
  refine xo_17 rfl ca_68 (am_ix.lit rfl) ?_
  refine xo_0 rfl ?_
  refine xo_7 rfl rfl ?_
  refine cl_150 rfl hd_157 rfl ?_
  refine xo_1 rfl rfl ?_
  refine xo_1 rfl rfl ?_
  refine xo_11lt rfl (am_sp ?_ ?_ H)
  · intro hc1 H
    refine xo_0 rfl ?_
    refine xr_42 rfl rfl ?_
    refine xr_42 rfl rfl ?_
    refine xo_10 rfl (by decide) ?_
    refine xo_2 rfl rfl ?_
    refine xo_0 rfl ?_
    refine cl_133_64 rfl hd_190 rfl ?_
    refine xo_2 rfl rfl ?_
    refine xo_1 rfl rfl ?_
    refine xo_14 rfl cf_64_3 ?_
    refine xo_0 rfl ?_
    refine xr_41 rfl ?_
    refine xo_41 rfl ?_
    exact H
  · intro hc1 H
    refine xo_1 rfl rfl ?_
    refine xo_1 rfl rfl ?_
    refine xo_11gt rfl (am_sp ?_ ?_ H)
    · intro hc2 H
      refine xo_0 rfl ?_
      refine xr_42 rfl rfl ?_
      refine xr_42 rfl rfl ?_
      refine xo_10 rfl (by decide) ?_
      refine xo_2 rfl rfl ?_
      refine xo_0 rfl ?_
      refine cl_133_64 rfl hd_190 rfl ?_
      refine xo_2 rfl rfl ?_
      refine xo_1 rfl rfl ?_
      refine xo_14 rfl cf_64_3 ?_
      refine xo_0 rfl ?_
      refine xr_41 rfl ?_
      refine xo_41 rfl ?_
      exact H
    · intro hc2 H
      refine xo_0 rfl ?_
      refine xo_12 rfl ?_
      refine xr_42 rfl rfl ?_
      refine xr_42 rfl rfl ?_
      refine xo_10n rfl (by decide) ?_
      refine xo_2 rfl rfl ?_
      refine xo_1 rfl rfl ?_
      refine cl_152_64 rfl hd_190 rfl ?_
      refine xo_1 rfl rfl ?_
      refine xo_0 rfl ?_
      refine xo_2 rfl rfl ?_
      refine xo_13r rfl cr_64_4 ?_
      refine xo_0 rfl ?_
      refine xo_17 rfl ca_68 (am_ix.lit rfl) ?_
      refine xo_0 rfl ?_
      refine xo_7 rfl rfl ?_
      refine cl_150 rfl hd_152 rfl ?_
      refine xo_1 rfl rfl ?_
      refine xo_1 rfl rfl ?_
      refine xo_11lt rfl (am_sp ?_ ?_ H)
      · intro hc3 H
        refine xo_0 rfl ?_
        refine xr_42 rfl rfl ?_
        refine xr_42 rfl rfl ?_
        refine xo_10 rfl (by decide) ?_
        refine xo_2 rfl rfl ?_
        refine xo_0 rfl ?_
        refine cl_133_64 rfl hd_190 rfl ?_
        refine xo_2 rfl rfl ?_
        refine xo_1 rfl rfl ?_
        refine xo_14 rfl cf_64_3 ?_
        refine xo_0 rfl ?_
        refine xr_41 rfl ?_
        refine xo_41 rfl ?_
        exact H
      · intro hc3 H
        refine xo_1 rfl rfl ?_
        refine xo_1 rfl rfl ?_
        refine xo_11gt rfl (am_sp ?_ ?_ H)
        · intro hc4 H
          refine xo_0 rfl ?_
          refine xr_42 rfl rfl ?_
          refine xr_42 rfl rfl ?_
          refine xo_10 rfl (by decide) ?_
          refine xo_2 rfl rfl ?_
          refine xo_0 rfl ?_
          refine cl_133_64 rfl hd_190 rfl ?_
          refine xo_2 rfl rfl ?_
          refine xo_1 rfl rfl ?_
          refine xo_14 rfl cf_64_3 ?_
          refine xo_0 rfl ?_
          refine xr_41 rfl ?_
          refine xo_41 rfl ?_
          exact H
        · intro hc4 H
          refine xo_0 rfl ?_
          refine xo_12 rfl ?_
          refine xr_42 rfl rfl ?_
          refine xr_42 rfl rfl ?_
          refine xo_10n rfl (by decide) ?_
          refine xo_1 rfl rfl ?_
          refine xo_0 rfl ?_
          refine xo_0 rfl ?_
          refine cl_150 rfl hd_190 rfl ?_
          refine xo_1 rfl rfl ?_
          refine xo_1 rfl rfl ?_
          refine xo_11lt rfl (am_sp ?_ ?_ H)
          · intro hc5 H
            refine xo_0 rfl ?_
            refine xr_42 rfl rfl ?_
            refine xo_10n rfl (by decide) ?_
            refine xo_2 rfl rfl ?_
            refine xo_0 rfl ?_
            refine cl_133_64 rfl hd_190 rfl ?_
            refine xo_2 rfl rfl ?_
            refine xo_1 rfl rfl ?_
            refine xo_14 rfl cf_64_3 ?_
            refine xo_0 rfl ?_
            refine xr_41 rfl ?_
            refine xo_41 rfl ?_
            exact H
          · intro hc5 H
            refine xo_1 rfl rfl ?_
            refine xo_1 rfl rfl ?_
            refine xo_11gt rfl (am_sp ?_ ?_ H)
            · intro hc6 H
              refine xo_0 rfl ?_
              refine xr_42 rfl rfl ?_
              refine xo_10n rfl (by decide) ?_
              refine xo_2 rfl rfl ?_
              refine xo_0 rfl ?_
              refine cl_133_64 rfl hd_190 rfl ?_
              refine xo_2 rfl rfl ?_
              refine xo_1 rfl rfl ?_
              refine xo_14 rfl cf_64_3 ?_
              refine xo_0 rfl ?_
              refine xr_41 rfl ?_
              refine xo_41 rfl ?_
              exact H
            · intro hc6 H
              refine xo_0 rfl ?_
              refine xo_12 rfl ?_
              refine xr_42 rfl rfl ?_
              refine xo_10 rfl (by decide) ?_
              refine xo_1 rfl rfl ?_
              refine xo_0 rfl ?_
              refine xo_0 rfl ?_
              refine cl_150 rfl hd_190 rfl ?_
              refine xo_1 rfl rfl ?_
              refine xo_1 rfl rfl ?_
              refine xo_11lt rfl (am_sp ?_ ?_ H)
              · intro hc7 H
                refine xo_0 rfl ?_
                refine xr_42 rfl rfl ?_
                refine xo_10n rfl (by decide) ?_
                refine xo_2 rfl rfl ?_
                refine xo_0 rfl ?_
                refine cl_133_64 rfl hd_190 rfl ?_
                refine xo_2 rfl rfl ?_
                refine xo_1 rfl rfl ?_
                refine xo_14 rfl cf_64_3 ?_
                refine xo_0 rfl ?_
                refine xr_41 rfl ?_
                refine xo_41 rfl ?_
                exact H
              · intro hc7 H
                refine xo_1 rfl rfl ?_
                refine xo_1 rfl rfl ?_
                refine xo_11gt rfl (am_sp ?_ ?_ H)
                · intro hc8 H
                  refine xo_0 rfl ?_
                  refine xr_42 rfl rfl ?_
                  refine xo_10n rfl (by decide) ?_
                  refine xo_2 rfl rfl ?_
                  refine xo_0 rfl ?_
                  refine cl_133_64 rfl hd_190 rfl ?_
                  refine xo_2 rfl rfl ?_
                  refine xo_1 rfl rfl ?_
                  refine xo_14 rfl cf_64_3 ?_
                  refine xo_0 rfl ?_
                  refine xr_41 rfl ?_
                  refine xo_41 rfl ?_
                  exact H
                · intro hc8 H
                  refine xo_0 rfl ?_
                  refine xo_12 rfl ?_
                  refine xr_42 rfl rfl ?_
                  refine xo_10 rfl (by decide) ?_
                  refine xo_2 rfl rfl ?_
                  refine xo_1 rfl rfl ?_
                  refine xo_1 rfl rfl ?_
                  refine xo_2 rfl rfl ?_
                  refine xo_13 rfl cf_64_28 ?_
                  refine xo_0 rfl ?_
                  refine cl_172_64 rfl hd_190 rfl ?_
                  exact H
theorem sm_190_64 {q1 : Option Value} {q2 : Option Value} {x3 : Int32} {x4 : Int32} {q5 : Option Value} {q6 : Option Value} {q7 : Option Value} (hq1 : am_nl q1 = true) (hq2 : am_nl q2 = true) (hq5 : am_nl q5 = true) (hq6 : am_nl q6 = true) (hq7 : am_nl q7 = true) (H : (if (if 0 < (((h 64 36) - (h 64 35)) + 1) then (((h 64 36) - (h 64 35)) + 1) else 0) = 0 then (if x4 = 0 then Q (some (.int 0)) h o g else Q (some (.int 1)) h o g) else am_X L xs d 191 0 [some (.int (if 0 < (((h 64 36) - (h 64 35)) + 1) then (((h 64 36) - (h 64 35)) + 1) else 0)), some (.int (if 0 < (if (((h 64 36) - x3) + 1) < (if 0 < (((h 64 36) - (h 64 35)) + 1) then (((h 64 36) - (h 64 35)) + 1) else 0) then (((h 64 36) - x3) + 1) else (if 0 < (((h 64 36) - (h 64 35)) + 1) then (((h 64 36) - (h 64 35)) + 1) else 0)) then (if (((h 64 36) - x3) + 1) < (if 0 < (((h 64 36) - (h 64 35)) + 1) then (((h 64 36) - (h 64 35)) + 1) else 0) then (((h 64 36) - x3) + 1) else (if 0 < (((h 64 36) - (h 64 35)) + 1) then (((h 64 36) - (h 64 35)) + 1) else 0)) else 0)), none, none, none] [] am_C0 h o g (fun w h' o' g' => am_X L xs (d + 1) 190 125 [some (.ref 64), q1, q2, some (.int x3), some (.int x4), some (.int (if 0 < (((h 64 36) - (h 64 35)) + 1) then (((h 64 36) - (h 64 35)) + 1) else 0)), some (.int (if 0 < (if (((h 64 36) - x3) + 1) < (if 0 < (((h 64 36) - (h 64 35)) + 1) then (((h 64 36) - (h 64 35)) + 1) else 0) then (((h 64 36) - x3) + 1) else (if 0 < (((h 64 36) - (h 64 35)) + 1) then (((h 64 36) - (h 64 35)) + 1) else 0)) then (if (((h 64 36) - x3) + 1) < (if 0 < (((h 64 36) - (h 64 35)) + 1) then (((h 64 36) - (h 64 35)) + 1) else 0) then (((h 64 36) - x3) + 1) else (if 0 < (((h 64 36) - (h 64 35)) + 1) then (((h 64 36) - (h 64 35)) + 1) else 0)) else 0)), q7] (w.toList ++ []) am_C0 h' o' g' Q T) T)) : am_X L xs (d + 1) 190 64 [some (.ref 64), q1, q2, some (.int x3), some (.int x4), q5, q6, q7] [] am_C0 h o g Q T := by
  refine xo_0 rfl ?_
  refine xo_2 rfl rfl ?_
  refine xo_13 rfl cf_64_36 ?_
  refine xo_2 rfl rfl ?_
  refine xo_13 rfl cf_64_35 ?_
  refine xo_7 rfl rfl ?_
  refine xo_0 rfl ?_
  refine xo_7 rfl rfl ?_
  refine xo_47x rfl (Nat.le_of_ble_eq_true rfl) ?_
  refine xo_4 (lv' := [some (.ref 64), q1, q2, some (.int x3), some (.int x4), some (.int (if 0 < (((h 64 36) - (h 64 35)) + 1) then (((h 64 36) - (h 64 35)) + 1) else 0)), q6, q7]) rfl rfl rfl ?_
  refine xo_1 rfl rfl ?_
  refine xo_10ne rfl (am_sp ?_ ?_ H)
  · intro hc1 H
    refine xo_0 rfl ?_
    refine xo_12 rfl ?_
    refine xo_4 (lv' := [some (.ref 64), q1, q2, some (.int x3), some (.int x4), some (.int (if 0 < (((h 64 36) - (h 64 35)) + 1) then (((h 64 36) - (h 64 35)) + 1) else 0)), some (.int 0), q7]) rfl rfl rfl ?_
    refine xo_1 rfl rfl ?_
    refine xo_10ne rfl (am_ift hc1 ?_)
    refine xo_0 rfl ?_
    refine xo_12 rfl ?_
    refine xo_4 (lv' := [some (.ref 64), q1, q2, some (.int x3), some (.int x4), some (.int (if 0 < (((h 64 36) - (h 64 35)) + 1) then (((h 64 36) - (h 64 35)) + 1) else 0)), some (.int 0), some (.int 1)]) rfl rfl rfl ?_
    refine xo_1 rfl rfl ?_
    refine xo_10ne rfl (am_sp ?_ ?_ H)
    · intro hc2 H
      refine xo_1 rfl rfl ?_
      refine xo_1 rfl rfl ?_
      refine xo_7 (z := 0) rfl (by decide) ?_
      refine xo_12 rfl ?_
      refine xo_41 rfl ?_
      exact H
    · intro hc2 H
      refine xo_1 rfl rfl ?_
      refine xo_10ne rfl (am_ift hc1 ?_)
      refine xo_0 rfl ?_
      refine xo_12 rfl ?_
      refine xo_41 rfl ?_
      exact H
  · intro hc1 H
    refine xo_0 rfl ?_
    refine xo_1 rfl rfl ?_
    refine xo_2 rfl rfl ?_
    refine xo_13 rfl cf_64_36 ?_
    refine xo_1 rfl rfl ?_
    refine xo_7 rfl rfl ?_
    refine xo_0 rfl ?_
    refine xo_7 rfl rfl ?_
    refine xo_47n rfl (Nat.le_of_ble_eq_true rfl) ?_
    refine xo_47x rfl (Nat.le_of_ble_eq_true rfl) ?_
    refine xo_4 (lv' := [some (.ref 64), q1, q2, some (.int x3), some (.int x4), some (.int (if 0 < (((h 64 36) - (h 64 35)) + 1) then (((h 64 36) - (h 64 35)) + 1) else 0)), some (.int (if 0 < (if (((h 64 36) - x3) + 1) < (if 0 < (((h 64 36) - (h 64 35)) + 1) then (((h 64 36) - (h 64 35)) + 1) else 0) then (((h 64 36) - x3) + 1) else (if 0 < (((h 64 36) - (h 64 35)) + 1) then (((h 64 36) - (h 64 35)) + 1) else 0)) then (if (((h 64 36) - x3) + 1) < (if 0 < (((h 64 36) - (h 64 35)) + 1) then (((h 64 36) - (h 64 35)) + 1) else 0) then (((h 64 36) - x3) + 1) else (if 0 < (((h 64 36) - (h 64 35)) + 1) then (((h 64 36) - (h 64 35)) + 1) else 0)) else 0)), q7]) rfl rfl rfl ?_
    refine xo_1 rfl rfl ?_
    refine xo_10ne rfl (am_iff hc1 ?_)
    refine xo_1 rfl rfl ?_
    refine xo_1 rfl rfl ?_
    refine cl_191 rfl hd_190 rfl ?_
    exact H
theorem sm_190_125 {q0 : Option Value} {q1 : Option Value} {q2 : Option Value} {q3 : Option Value} {x4 : Int32} {x5 : Int32} {x6 : Int32} {q7 : Option Value} {z0 : Int32} (hq0 : am_nl q0 = true) (hq1 : am_nl q1 = true) (hq2 : am_nl q2 = true) (hq3 : am_nl q3 = true) (hq7 : am_nl q7 = true) (H : (if x4 = 0 then (¬ z0 = 0 ∧ Q (some (.int (x6 / z0))) h o g) else (if x5 = 0 then Q (some (.int 1)) h o g else (¬ z0 = 0 ∧ Q (some (.int (x5 / z0))) h o g)))) : am_X L xs d 190 125 [q0, q1, q2, q3, some (.int x4), some (.int x5), some (.int x6), q7] [.int z0] am_C0 h o g Q T := by
  refine xo_4 (lv' := [q0, q1, q2, q3, some (.int x4), some (.int x5), some (.int x6), some (.int z0)]) rfl rfl rfl ?_
  refine xo_1 rfl rfl ?_
  refine xo_10ne rfl (am_sp ?_ ?_ H)
  · intro hc1 H
    refine xo_1 rfl rfl ?_
    refine xo_1 rfl rfl ?_
    obtain ⟨hg2, H⟩ := H
    refine xo_7d rfl hg2 ?_
    refine xo_12 rfl ?_
    refine xo_41 rfl ?_
    exact H
  · intro hc1 H
    refine xo_1 rfl rfl ?_
    refine xo_10ne rfl (am_sp ?_ ?_ H)
    · intro hc3 H
      refine xo_0 rfl ?_
      refine xo_12 rfl ?_
      refine xo_41 rfl ?_
      exact H
    · intro hc3 H
      refine xo_1 rfl rfl ?_
      refine xo_1 rfl rfl ?_
      obtain ⟨hg4, H⟩ := H
      refine xo_7d rfl hg4 ?_
      refine xo_41 rfl ?_
      exact H
theorem sm_191 {x0 : Int32} {x1 : Int32} (H : am_X L xs d 191 4 [some (.int x0), some (.int x1), some (.int x0), some (.int x1), none] [] am_C0 h o g Q T) : am_X L xs d 191 0 [some (.int x0), some (.int x1), none, none, none] [] am_C0 h o g Q T := by
  refine xo_1 rfl rfl ?_
  refine xo_4 (lv' := [some (.int x0), some (.int x1), some (.int x0), none, none]) rfl rfl rfl ?_
  refine xo_1 rfl rfl ?_
  refine xo_4 (lv' := [some (.int x0), some (.int x1), some (.int x0), some (.int x1), none]) rfl rfl rfl ?_
  exact H
theorem sm_191_4 {q0 : Option Value} {q1 : Option Value} {x2 : Int32} {x3 : Int32} {q4 : Option Value} (hq0 : am_nl q0 = true) (hq1 : am_nl q1 = true) (hq4 : am_nl q4 = true) (H : (if x3 = 0 then Q (some (.int x2)) h o g else (¬ x3 = 0 ∧ am_X L xs d 191 4 [q0, q1, some (.int x3), some (.int (x2 - x2 / x3 * x3)), some (.int (x2 - x2 / x3 * x3))] [] am_C0 h o g Q T))) : am_X L xs d 191 4 [q0, q1, some (.int x2), some (.int x3), q4] [] am_C0 h o g Q T := by
  refine xo_1 rfl rfl ?_
  refine xo_10eq rfl (am_sp ?_ ?_ H)
  · intro hc1 H
    refine xo_1 rfl rfl ?_
    refine xo_41 rfl ?_
    exact H
  · intro hc1 H
    refine xo_1 rfl rfl ?_
    refine xo_1 rfl rfl ?_
    obtain ⟨hg2, H⟩ := H
    refine xo_7r rfl hg2 ?_
    refine xo_4 (lv' := [q0, q1, some (.int x2), some (.int x3), some (.int (x2 - x2 / x3 * x3))]) rfl rfl rfl ?_
    refine xo_1 rfl rfl ?_
    refine xo_4 (lv' := [q0, q1, some (.int x3), some (.int x3), some (.int (x2 - x2 / x3 * x3))]) rfl hq1 rfl ?_
    refine xo_1 rfl rfl ?_
    refine xo_4 (lv' := [q0, q1, some (.int x3), some (.int (x2 - x2 / x3 * x3)), some (.int (x2 - x2 / x3 * x3))]) rfl rfl rfl ?_
    refine xo_12 rfl ?_
    exact H
theorem sm_192 {x1 : Int32} {x2 : Int32} {x3 : Int32} (H : (if x1 < 0 then Q (some (.int 0)) (am_set (am_set h 64 3 0) 64 3 1) o g else (if ((h 68 1) - 1) < x1 then Q (some (.int 0)) (am_set (am_set h 64 3 0) 64 3 1) o g else (if x2 < 0 then Q (some (.int 0)) (am_set (am_set h 64 3 0) 64 3 1) o g else (if ((h 68 0) - 1) < x2 then Q (some (.int 0)) (am_set (am_set h 64 3 0) 64 3 1) o g else (if x3 < 1 then Q (some (.int 0)) (am_set (am_set h 64 3 0) 64 3 2) o g else (if 60 < x3 then Q (some (.int 0)) (am_set (am_set h 64 3 0) 64 3 2) o g else am_X L xs (d + 1) 181 0 [some (.ref 64), some (.int x1), some (.int 0), none] [] am_C0 (am_set h 64 3 0) o g (fun w h' o' g' => am_X L xs (d + 2) 192 49 [some (.ref 64), some (.int x1), some (.int x2), some (.int x3)] (w.toList ++ []) am_C0 h' o' g' Q T) T))))))) : am_X L xs (d + 2) 192 0 [some (.ref 64), some (.int x1), some (.int x2), some (.int x3)] [] am_C0 h o g Q T := by
  refine xo_2 rfl rfl ?_
  refine xo_0 rfl ?_
  refine xo_14 rfl cf_64_3 ?_
  refine xo_2 rfl rfl ?_
  refine xo_1 rfl rfl ?_
  refine cl_157_64 rfl hd_192 rfl ?_
  refine xo_1 rfl rfl ?_
  refine xo_0 rfl ?_
  refine xo_2 rfl rfl ?_
  refine xo_13r rfl cr_64_4 ?_
  refine xo_0 rfl ?_
  refine xo_17 rfl ca_68 (am_ix.lit rfl) ?_
  refine xo_0 rfl ?_
  refine xo_7 rfl rfl ?_
  refine cl_150 rfl hd_157 rfl ?_
  refine xo_1 rfl rfl ?_
  refine xo_1 rfl rfl ?_
  refine xo_11lt rfl (am_sp ?_ ?_ H)
  · intro hc1 H
    refine xo_0 rfl ?_
    refine xr_42 rfl rfl ?_
    refine xr_42 rfl rfl ?_
    refine xo_10 rfl (by decide) ?_
    refine xo_2 rfl rfl ?_
    refine xo_0 rfl ?_
    refine cl_133_64 rfl hd_192 rfl ?_
    refine xo_2 rfl rfl ?_
    refine xo_1 rfl rfl ?_
    refine xo_14 rfl cf_64_3 ?_
    refine xo_0 rfl ?_
    refine xr_41 rfl ?_
    refine xo_41 rfl ?_
    exact H
  · intro hc1 H
    refine xo_1 rfl rfl ?_
    refine xo_1 rfl rfl ?_
    refine xo_11gt rfl (am_sp ?_ ?_ H)
    · intro hc2 H
      refine xo_0 rfl ?_
      refine xr_42 rfl rfl ?_
      refine xr_42 rfl rfl ?_
      refine xo_10 rfl (by decide) ?_
      refine xo_2 rfl rfl ?_
      refine xo_0 rfl ?_
      refine cl_133_64 rfl hd_192 rfl ?_
      refine xo_2 rfl rfl ?_
      refine xo_1 rfl rfl ?_
      refine xo_14 rfl cf_64_3 ?_
      refine xo_0 rfl ?_
      refine xr_41 rfl ?_
      refine xo_41 rfl ?_
      exact H
    · intro hc2 H
      refine xo_0 rfl ?_
      refine xo_12 rfl ?_
      refine xr_42 rfl rfl ?_
      refine xr_42 rfl rfl ?_
      refine xo_10n rfl (by decide) ?_
      refine xo_2 rfl rfl ?_
      refine xo_1 rfl rfl ?_
      refine cl_152_64 rfl hd_192 rfl ?_
      refine xo_1 rfl rfl ?_
      refine xo_0 rfl ?_
      refine xo_2 rfl rfl ?_
      refine xo_13r rfl cr_64_4 ?_
      refine xo_0 rfl ?_
      refine xo_17 rfl ca_68 (am_ix.lit rfl) ?_
      refine xo_0 rfl ?_
      refine xo_7 rfl rfl ?_
      refine cl_150 rfl hd_152 rfl ?_
      refine xo_1 rfl rfl ?_
      refine xo_1 rfl rfl ?_
      refine xo_11lt rfl (am_sp ?_ ?_ H)
      · intro hc3 H
        refine xo_0 rfl ?_
        refine xr_42 rfl rfl ?_
        refine xr_42 rfl rfl ?_
        refine xo_10n rfl (by decide) ?_
        refine xo_2 rfl rfl ?_
        refine xo_0 rfl ?_
        refine cl_133_64 rfl hd_192 rfl ?_
        refine xo_2 rfl rfl ?_
        refine xo_1 rfl rfl ?_
        refine xo_14 rfl cf_64_3 ?_
        refine xo_0 rfl ?_
        refine xr_41 rfl ?_
        refine xo_41 rfl ?_
        exact H
      · intro hc3 H
        refine xo_1 rfl rfl ?_
        refine xo_1 rfl rfl ?_
        refine xo_11gt rfl (am_sp ?_ ?_ H)
        · intro hc4 H
          refine xo_0 rfl ?_
          refine xr_42 rfl rfl ?_
          refine xr_42 rfl rfl ?_
          refine xo_10n rfl (by decide) ?_
          refine xo_2 rfl rfl ?_
          refine xo_0 rfl ?_
          refine cl_133_64 rfl hd_192 rfl ?_
          refine xo_2 rfl rfl ?_
          refine xo_1 rfl rfl ?_
          refine xo_14 rfl cf_64_3 ?_
          refine xo_0 rfl ?_
          refine xr_41 rfl ?_
          refine xo_41 rfl ?_
          exact H
        · intro hc4 H
          refine xo_0 rfl ?_
          refine xo_12 rfl ?_
          refine xr_42 rfl rfl ?_
          refine xr_42 rfl rfl ?_
          refine xo_10 rfl (by decide) ?_
          refine xo_1 rfl rfl ?_
          refine xo_0 rfl ?_
          refine xo_0 rfl ?_
          refine cl_150 rfl hd_192 rfl ?_
          refine xo_1 rfl rfl ?_
          refine xo_1 rfl rfl ?_
          refine xo_11lt rfl (am_sp ?_ ?_ H)
          · intro hc5 H
            refine xo_0 rfl ?_
            refine xr_42 rfl rfl ?_
            refine xo_10n rfl (by decide) ?_
            refine xo_2 rfl rfl ?_
            refine xo_0 rfl ?_
            refine cl_133_64 rfl hd_192 rfl ?_
            refine xo_2 rfl rfl ?_
            refine xo_1 rfl rfl ?_
            refine xo_14 rfl cf_64_3 ?_
            refine xo_0 rfl ?_
            refine xr_41 rfl ?_
            refine xo_41 rfl ?_
            exact H
          · intro hc5 H
            refine xo_1 rfl rfl ?_
            refine xo_1 rfl rfl ?_
            refine xo_11gt rfl (am_sp ?_ ?_ H)
            · intro hc6 H
              refine xo_0 rfl ?_
              refine xr_42 rfl rfl ?_
              refine xo_10n rfl (by decide) ?_
              refine xo_2 rfl rfl ?_
              refine xo_0 rfl ?_
              refine cl_133_64 rfl hd_192 rfl ?_
              refine xo_2 rfl rfl ?_
              refine xo_1 rfl rfl ?_
              refine xo_14 rfl cf_64_3 ?_
              refine xo_0 rfl ?_
              refine xr_41 rfl ?_
              refine xo_41 rfl ?_
              exact H
            · intro hc6 H
              refine xo_0 rfl ?_
              refine xo_12 rfl ?_
              refine xr_42 rfl rfl ?_
              refine xo_10 rfl (by decide) ?_
              refine xo_2 rfl rfl ?_
              refine xo_1 rfl rfl ?_
              refine xo_0 rfl ?_
              refine cl_181_64 rfl hd_192 rfl ?_
              exact H
theorem sm_192_49 {x1 : Int32} {x2 : Int32} {x3 : Int32} (H : am_X L xs d 184 0 [some (.ref 64)] [] am_C0 h o g (fun w h' o' g' => am_X L xs (d + 1) 192 57 [some (.ref 64), some (.int x1), some (.int x2), some (.int x3)] (w.toList ++ [.int x3, .int x2, .int x1, .ref 64]) am_C0 h' o' g' Q T) T) : am_X L xs (d + 1) 192 49 [some (.ref 64), some (.int x1), some (.int x2), some (.int x3)] [] am_C0 h o g Q T := by
  refine xo_2 rfl rfl ?_
  refine xo_1 rfl rfl ?_
  refine xo_1 rfl rfl ?_
  refine xo_1 rfl rfl ?_
  refine xo_2 rfl rfl ?_
  refine cl_184_64 rfl hd_192 rfl ?_
  exact H
theorem sm_192_57 {q0 : Option Value} {q1 : Option Value} {q2 : Option Value} {q3 : Option Value} {z1 : Int32} {z2 : Int32} {z3 : Int32} {z4 : Int32} (hq0 : am_nl q0 = true) (hq1 : am_nl q1 = true) (hq2 : am_nl q2 = true) (hq3 : am_nl q3 = true) (H : am_X L xs d 193 0 [some (.ref 64), some (.int z1), some (.int z2), some (.int z3), some (.int z4), none, none, none] [] am_C0 h o g (fun w h' o' g' => am_X L xs (d + 1) 192 60 [q0, q1, q2, q3] (w.toList ++ []) am_C0 h' o' g' Q T) T) : am_X L xs (d + 1) 192 57 [q0, q1, q2, q3] [.int z4, .int z3, .int z2, .int z1, .ref 64] am_C0 h o g Q T := by
  refine cl_193_64 rfl hd_192 rfl ?_
  exact H
theorem sm_192_60 {q0 : Option Value} {q1 : Option Value} {q2 : Option Value} {q3 : Option Value} {z0 : Int32} (hq0 : am_nl q0 = true) (hq1 : am_nl q1 = true) (hq2 : am_nl q2 = true) (hq3 : am_nl q3 = true) (H : Q (some (.int z0)) h o g) : am_X L xs d 192 60 [q0, q1, q2, q3] [.int z0] am_C0 h o g Q T := by
  refine xo_41 rfl ?_
  exact H
theorem sm_193 {x1 : Int32} {x2 : Int32} {x3 : Int32} {x4 : Int32} (H : am_X L xs d 172 0 [some (.ref 64), some (.int x1), some (.int x2), some (.int (h 64 28)), some (.int (-1)), none] [] am_C0 h o g (fun w h' o' g' => am_X L xs (d + 1) 193 11 [some (.ref 64), some (.int x1), some (.int x2), some (.int x3), some (.int x4), none, none, none] (w.toList ++ []) am_C0 h' o' g' Q T) T) : am_X L xs (d + 1) 193 0 [some (.ref 64), some (.int x1), some (.int x2), some (.int x3), some (.int x4), none, none, none] [] am_C0 h o g Q T := by
  refine xo_2 rfl rfl ?_
  refine xo_1 rfl rfl ?_
  refine xo_1 rfl rfl ?_
  refine xo_2 rfl rfl ?_
  refine xo_13 rfl cf_64_28 ?_
  refine xo_0 rfl ?_
  refine cl_172_64 rfl hd_193 rfl ?_
  exact H
theorem sm_193_11 {x1 : Int32} {x2 : Int32} {x3 : Int32} {x4 : Int32} {q5 : Option Value} {q6 : Option Value} {q7 : Option Value} (hq5 : am_nl q5 = true) (hq6 : am_nl q6 = true) (hq7 : am_nl q7 = true) (H : (if 0 < (((h 64 36) - (h 64 35)) + 1) then (if 0 < (((if (x3 - 1) < (h 64 36) then (x3 - 1) else (h 64 36)) - (h 64 35)) + 1) then am_X L xs d 182 0 [some (.ref 64), some (.int x2), some (.int 0), none, none] [] am_C0 (am_set h 64 36 (if (x3 - 1) < (h 64 36) then (x3 - 1) else (h 64 36))) o g (fun w h' o' g' => am_X L xs (d + 1) 193 67 [some (.ref 64), some (.int x1), some (.int x2), some (.int x3), some (.int x4), some (.int (((h 64 36) - (h 64 35)) + 1)), some (.int (((if (x3 - 1) < (h 64 36) then (x3 - 1) else (h 64 36)) - (h 64 35)) + 1)), q7] (w.toList ++ []) am_C0 h' o' g' Q T) T else Q (some (.int 0)) h o g) else Q (some (.int 0)) h o g)) : am_X L xs (d + 1) 193 11 [some (.ref 64), some (.int x1), some (.int x2), some (.int x3), some (.int x4), q5, q6, q7] [] am_C0 h o g Q T := by
  refine xo_2 rfl rfl ?_
  refine xo_13 rfl cf_64_36 ?_
  refine xo_2 rfl rfl ?_
  refine xo_13 rfl cf_64_35 ?_
  refine xo_7 rfl rfl ?_
  refine xo_0 rfl ?_
  refine xo_7 rfl rfl ?_
  refine xo_4 (lv' := [some (.ref 64), some (.int x1), some (.int x2), some (.int x3), some (.int x4), some (.int (((h 64 36) - (h 64 35)) + 1)), q6, q7]) rfl rfl rfl ?_
  refine xo_2 rfl rfl ?_
  refine xo_13 rfl cf_64_36 ?_
  refine xo_1 rfl rfl ?_
  refine xo_0 rfl ?_
  refine xo_7 rfl rfl ?_
  refine xo_47n rfl (Nat.le_of_ble_eq_true rfl) ?_
  refine xo_2 rfl rfl ?_
  refine xo_13 rfl cf_64_35 ?_
  refine xo_7 rfl rfl ?_
  refine xo_0 rfl ?_
  refine xo_7 rfl rfl ?_
  refine xo_4 (lv' := [some (.ref 64), some (.int x1), some (.int x2), some (.int x3), some (.int x4), some (.int (((h 64 36) - (h 64 35)) + 1)), some (.int (((if (x3 - 1) < (h 64 36) then (x3 - 1) else (h 64 36)) - (h 64 35)) + 1)), q7]) rfl rfl rfl ?_
  refine xo_1 rfl rfl ?_
  refine xo_10le rfl (am_sp ?_ ?_ H)
  · intro hc1 H
    refine xo_1 rfl rfl ?_
    refine xo_10gt rfl (am_sp ?_ ?_ H)
    · intro hc2 H
      refine xo_2 rfl rfl ?_
      refine xo_1 rfl rfl ?_
      refine xo_0 rfl ?_
      refine cl_155_64 rfl hd_193 rfl ?_
      refine xo_1 rfl rfl ?_
      refine xo_10 rfl (by decide) ?_
      refine xo_2 rfl rfl ?_
      refine xo_2 rfl rfl ?_
      refine xo_13 rfl cf_64_36 ?_
      refine xo_1 rfl rfl ?_
      refine xo_0 rfl ?_
      refine xo_7 rfl rfl ?_
      refine xo_47n rfl (Nat.le_of_ble_eq_true rfl) ?_
      refine xo_14 rfl cf_64_36 ?_
      refine xr_44 rfl ?_
      refine xo_2 rfl rfl ?_
      refine xo_1 rfl rfl ?_
      refine xo_0 rfl ?_
      refine cl_182_64 rfl hd_193 rfl ?_
      exact H
    · intro hc2 H
      refine xo_0 rfl ?_
      refine xo_41 rfl ?_
      exact H
  · intro hc1 H
    refine xo_0 rfl ?_
    refine xo_41 rfl ?_
    exact H
theorem sm_193_67 {x1 : Int32} {x2 : Int32} {q3 : Option Value} {x4 : Int32} {x5 : Int32} {x6 : Int32} {q7 : Option Value} (hq3 : am_nl q3 = true) (hq7 : am_nl q7 = true) (H : am_X L xs d 184 0 [some (.ref 64)] [] am_C0 h o g (fun w h' o' g' => am_X L xs (d + 1) 193 71 [some (.ref 64), some (.int x1), some (.int x2), q3, some (.int x4), some (.int x5), some (.int x6), q7] (w.toList ++ []) am_C0 h' o' g' Q T) T) : am_X L xs (d + 1) 193 67 [some (.ref 64), some (.int x1), some (.int x2), q3, some (.int x4), some (.int x5), some (.int x6), q7] [] am_C0 h o g Q T := by
  refine xo_2 rfl rfl ?_
  refine cl_184_64 rfl hd_193 rfl ?_
  exact H
theorem sm_193_71 {x1 : Int32} {x2 : Int32} {q3 : Option Value} {x4 : Int32} {x5 : Int32} {x6 : Int32} {q7 : Option Value} {z0 : Int32} (hq3 : am_nl q3 = true) (hq7 : am_nl q7 = true) (H : am_X L xs d 172 0 [some (.ref 64), some (.int x1), some (.int x2), some (.int (h 64 28)), some (.int (-1)), none] [] am_C0 h o g (fun w h' o' g' => am_X L xs (d + 1) 193 87 [some (.ref 64), some (.int x1), some (.int x2), q3, some (.int x4), some (.int x5), some (.int x6), some (.int (z0 - x4))] (w.toList ++ []) am_C0 h' o' g' Q T) T) : am_X L xs (d + 1) 193 71 [some (.ref 64), some (.int x1), some (.int x2), q3, some (.int x4), some (.int x5), some (.int x6), q7] [.int z0] am_C0 h o g Q T := by
  refine xo_1 rfl rfl ?_
  refine xo_7 rfl rfl ?_
  refine xo_4 (lv' := [some (.ref 64), some (.int x1), some (.int x2), q3, some (.int x4), some (.int x5), some (.int x6), some (.int (z0 - x4))]) rfl rfl rfl ?_
  refine xo_2 rfl rfl ?_
  refine xo_1 rfl rfl ?_
  refine xo_1 rfl rfl ?_
  refine xo_2 rfl rfl ?_
  refine xo_13 rfl cf_64_28 ?_
  refine xo_0 rfl ?_
  refine cl_172_64 rfl hd_193 rfl ?_
  exact H
theorem sm_193_87 {q1 : Option Value} {x2 : Int32} {q3 : Option Value} {q4 : Option Value} {x5 : Int32} {x6 : Int32} {x7 : Int32} (hq1 : am_nl q1 = true) (hq3 : am_nl q3 = true) (hq4 : am_nl q4 = true) (H : am_X L xs d 182 0 [some (.ref 64), some (.int x2), some (.int 0), none, none] [] am_C0 h o g (fun w h' o' g' => am_X L xs (d + 1) 193 93 [some (.ref 64), q1, some (.int x2), q3, q4, some (.int x5), some (.int x6), some (.int x7)] (w.toList ++ []) am_C0 h' o' g' Q T) T) : am_X L xs (d + 1) 193 87 [some (.ref 64), q1, some (.int x2), q3, q4, some (.int x5), some (.int x6), some (.int x7)] [] am_C0 h o g Q T := by
  refine xo_2 rfl rfl ?_
  refine xo_1 rfl rfl ?_
  refine xo_0 rfl ?_
  refine cl_182_64 rfl hd_193 rfl ?_
  exact H
theorem sm_193_93 {q0 : Option Value} {q1 : Option Value} {q2 : Option Value} {q3 : Option Value} {q4 : Option Value} {x5 : Int32} {x6 : Int32} {x7 : Int32} (hq0 : am_nl q0 = true) (hq1 : am_nl q1 = true) (hq2 : am_nl q2 = true) (hq3 : am_nl q3 = true) (hq4 : am_nl q4 = true) (H : (¬ x5 = 0 ∧ Q (some (.int (((1000 * x7) * x6) / x5))) h o g)) : am_X L xs d 193 93 [q0, q1, q2, q3, q4, some (.int x5), some (.int x6), some (.int x7)] [] am_C0 h o g Q T := by
  refine xo_0 rfl ?_
  refine xo_1 rfl rfl ?_
  refine xo_7 rfl rfl ?_
  refine xo_1 rfl rfl ?_
  refine xo_7 rfl rfl ?_
  refine xo_1 rfl rfl ?_
  obtain ⟨hg1, H⟩ := H
  refine xo_7d rfl hg1 ?_
  refine xo_41 rfl ?_
  exact H
theorem sm_194 {x1 : Int32} {x2 : Int32} (H : (if x1 < 0 then Q (some (.int 0)) (am_set (am_set h 64 3 0) 64 3 1) o g else (if ((h 68 1) - 1) < x1 then Q (some (.int 0)) (am_set (am_set h 64 3 0) 64 3 1) o g else (if x2 < 0 then Q (some (.int 0)) (am_set (am_set h 64 3 0) 64 3 1) o g else (if 1 < x2 then Q (some (.int 0)) (am_set (am_set h 64 3 0) 64 3 1) o g else am_X L xs (d + 1) 181 0 [some (.ref 64), some (.int x1), some (.int 0), none] [] am_C0 (am_set h 64 3 0) o g (fun w h' o' g' => am_X L xs (d + 2) 194 34 [some (.ref 64), some (.int x1), some (.int x2), none, none, none, none, none, none] (w.toList ++ []) am_C0 h' o' g' Q T) T))))) : am_X L xs (d + 2) 194 0 [some (.ref 64), some (.int x1), some (.int x2), none, none, none, none, none, none] [] am_C0 h o g Q T := by
  refine xo_2 rfl rfl ?_
  refine xo_0 rfl ?_
  refine xo_14 rfl cf_64_3 ?_
  refine xo_2 rfl rfl ?_
  refine xo_1 rfl rfl ?_
  refine cl_157_64 rfl hd_194 rfl ?_
  refine xo_1 rfl rfl ?_
  refine xo_0 rfl ?_
  refine xo_2 rfl rfl ?_
  refine xo_13r rfl cr_64_4 ?_
  refine xo_0 rfl ?_
  refine xo_17 rfl ca_68 (am_ix.lit rfl) ?_
  refine xo_0 rfl ?_
  refine xo_7 rfl rfl ?_
  refine cl_150 rfl hd_157 rfl ?_
  refine xo_1 rfl rfl ?_
  refine xo_1 rfl rfl ?_
  refine xo_11lt rfl (am_sp ?_ ?_ H)
  · intro hc1 H
    refine xo_0 rfl ?_
    refine xr_42 rfl rfl ?_
    refine xr_42 rfl rfl ?_
    refine xo_10 rfl (by decide) ?_
    refine xo_2 rfl rfl ?_
    refine xo_0 rfl ?_
    refine cl_133_64 rfl hd_194 rfl ?_
    refine xo_2 rfl rfl ?_
    refine xo_1 rfl rfl ?_
    refine xo_14 rfl cf_64_3 ?_
    refine xo_0 rfl ?_
    refine xr_41 rfl ?_
    refine xo_41 rfl ?_
    exact H
  · intro hc1 H
    refine xo_1 rfl rfl ?_
    refine xo_1 rfl rfl ?_
    refine xo_11gt rfl (am_sp ?_ ?_ H)
    · intro hc2 H
      refine xo_0 rfl ?_
      refine xr_42 rfl rfl ?_
      refine xr_42 rfl rfl ?_
      refine xo_10 rfl (by decide) ?_
      refine xo_2 rfl rfl ?_
      refine xo_0 rfl ?_
      refine cl_133_64 rfl hd_194 rfl ?_
      refine xo_2 rfl rfl ?_
      refine xo_1 rfl rfl ?_
      refine xo_14 rfl cf_64_3 ?_
      refine xo_0 rfl ?_
      refine xr_41 rfl ?_
      refine xo_41 rfl ?_
      exact H
    · intro hc2 H
      refine xo_0 rfl ?_
      refine xo_12 rfl ?_
      refine xr_42 rfl rfl ?_
      refine xr_42 rfl rfl ?_
      refine xo_10n rfl (by decide) ?_
      refine xo_1 rfl rfl ?_
      refine xo_0 rfl ?_
      refine xo_0 rfl ?_
      refine cl_150 rfl hd_194 rfl ?_
      refine xo_1 rfl rfl ?_
      refine xo_1 rfl rfl ?_
      refine xo_11lt rfl (am_sp ?_ ?_ H)
      · intro hc3 H
        refine xo_0 rfl ?_
        refine xr_42 rfl rfl ?_
        refine xo_10n rfl (by decide) ?_
        refine xo_2 rfl rfl ?_
        refine xo_0 rfl ?_
        refine cl_133_64 rfl hd_194 rfl ?_
        refine xo_2 rfl rfl ?_
        refine xo_1 rfl rfl ?_
        refine xo_14 rfl cf_64_3 ?_
        refine xo_0 rfl ?_
        refine xr_41 rfl ?_
        refine xo_41 rfl ?_
        exact H
      · intro hc3 H
        refine xo_1 rfl rfl ?_
        refine xo_1 rfl rfl ?_
        refine xo_11gt rfl (am_sp ?_ ?_ H)
        · intro hc4 H
          refine xo_0 rfl ?_
          refine xr_42 rfl rfl ?_
          refine xo_10n rfl (by decide) ?_
          refine xo_2 rfl rfl ?_
          refine xo_0 rfl ?_
          refine cl_133_64 rfl hd_194 rfl ?_
          refine xo_2 rfl rfl ?_
          refine xo_1 rfl rfl ?_
          refine xo_14 rfl cf_64_3 ?_
          refine xo_0 rfl ?_
          refine xr_41 rfl ?_
          refine xo_41 rfl ?_
          exact H
        · intro hc4 H
          refine xo_0 rfl ?_
          refine xo_12 rfl ?_
          refine xr_42 rfl rfl ?_
          refine xo_10 rfl (by decide) ?_
          refine xo_2 rfl rfl ?_
          refine xo_1 rfl rfl ?_
          refine xo_0 rfl ?_
          refine cl_181_64 rfl hd_194 rfl ?_
          exact H
theorem sm_194_34 {x1 : Int32} {x2 : Int32} {q3 : Option Value} {q4 : Option Value} {q5 : Option Value} {q6 : Option Value} {q7 : Option Value} {q8 : Option Value} (hq3 : am_nl q3 = true) (hq4 : am_nl q4 = true) (hq5 : am_nl q5 = true) (hq6 : am_nl q6 = true) (hq7 : am_nl q7 = true) (hq8 : am_nl q8 = true) (H : am_X L xs d 184 0 [some (.ref 64)] [] am_C0 h o g (fun w h' o' g' => am_X L xs (d + 1) 194 38 [some (.ref 64), some (.int x1), some (.int x2), q3, q4, q5, q6, q7, q8] (w.toList ++ []) am_C0 h' o' g' Q T) T) : am_X L xs (d + 1) 194 34 [some (.ref 64), some (.int x1), some (.int x2), q3, q4, q5, q6, q7, q8] [] am_C0 h o g Q T := by
  refine xo_2 rfl rfl ?_
  refine cl_184_64 rfl hd_194 rfl ?_
  exact H
theorem sm_194_38 {x1 : Int32} {x2 : Int32} {q3 : Option Value} {q4 : Option Value} {q5 : Option Value} {q6 : Option Value} {q7 : Option Value} {q8 : Option Value} {z0 : Int32} (hq3 : am_nl q3 = true) (hq4 : am_nl q4 = true) (hq5 : am_nl q5 = true) (hq6 : am_nl q6 = true) (hq7 : am_nl q7 = true) (hq8 : am_nl q8 = true) (H : am_X L xs d 194 48 [some (.ref 64), some (.int x1), some (.int x2), some (.int z0), some (.int (-1)), some (.int (-1)), some (.int 0), q7, q8] [] am_C0 h o g Q T) : am_X L xs d 194 38 [some (.ref 64), some (.int x1), some (.int x2), q3, q4, q5, q6, q7, q8] [.int z0] am_C0 h o g Q T := by
  refine xo_4 (lv' := [some (.ref 64), some (.int x1), some (.int x2), some (.int z0), q4, q5, q6, q7, q8]) rfl rfl rfl ?_
  refine xo_0 rfl ?_
  refine xo_4 (lv' := [some (.ref 64), some (.int x1), some (.int x2), some (.int z0), some (.int (-1)), q5, q6, q7, q8]) rfl rfl rfl ?_
  refine xo_0 rfl ?_
  refine xo_4 (lv' := [some (.ref 64), some (.int x1), some (.int x2), some (.int z0), some (.int (-1)), some (.int (-1)), q6, q7, q8]) rfl rfl rfl ?_
  refine xo_0 rfl ?_
  refine xo_4 (lv' := [some (.ref 64), some (.int x1), some (.int x2), some (.int z0), some (.int (-1)), some (.int (-1)), some (.int 0), q7, q8]) rfl rfl rfl ?_
  exact H
theorem sm_194_48 {x1 : Int32} {x2 : Int32} {x3 : Int32} {x4 : Int32} {x5 : Int32} {x6 : Int32} {q7 : Option Value} {q8 : Option Value} (hq7 : am_nl q7 = true) (hq8 : am_nl q8 = true) (H : (if x6 < (h 68 0) then am_X L xs d 166 0 [some (.ref 64), some (.int x1), some (.int x6), none] [] am_C0 h o g (fun w h' o' g' => am_X L xs (d + 1) 194 66 [some (.ref 64), some (.int x1), some (.int x2), some (.int x3), some (.int x4), some (.int x5), some (.int x6), q7, q8] (w.toList ++ []) am_C0 h' o' g' Q T) T else (if x2 = 0 then Q (some (.int x4)) h o g else Q (some (.int x5)) h o g))) : am_X L xs (d + 1) 194 48 [some (.ref 64), some (.int x1), some (.int x2), some (.int x3), some (.int x4), some (.int x5), some (.int x6), q7, q8] [] am_C0 h o g Q T := by
  refine xo_1 rfl rfl ?_
  refine xo_2 rfl rfl ?_
  refine xo_13r rfl cr_64_4 ?_
  refine xo_0 rfl ?_
  refine xo_17 rfl ca_68 (am_ix.lit rfl) ?_
  refine xo_11ge rfl (am_sp ?_ ?_ H)
  · intro hc1 H
    refine xo_2 rfl rfl ?_
    refine xo_1 rfl rfl ?_
    refine xo_1 rfl rfl ?_
    refine cl_166_64 rfl hd_194 rfl ?_
    exact H
  · intro hc1 H
    refine xo_1 rfl rfl ?_
    refine xo_10ne rfl (am_sp ?_ ?_ H)
    · intro hc2 H
      refine xo_1 rfl rfl ?_
      refine xo_12 rfl ?_
      refine xo_41 rfl ?_
      exact H
    · intro hc2 H
      refine xo_1 rfl rfl ?_
      refine xo_41 rfl ?_
      exact H
theorem sm_194_66 {x1 : Int32} {x2 : Int32} {x3 : Int32} {x4 : Int32} {x5 : Int32} {x6 : Int32} {q7 : Option Value} {q8 : Option Value} {z0 : Int32} (hq7 : am_nl q7 = true) (hq8 : am_nl q8 = true) (H : (if z0 = 0 then am_X L xs d 194 75 [some (.ref 64), some (.int x1), some (.int x2), some (.int x3), some (.int x4), some (.int x5), some (.int x6), some (.int 1), q8] [] am_C0 h o g Q T else am_X L xs d 194 48 [some (.ref 64), some (.int x1), some (.int x2), some (.int x3), some (.int x4), some (.int x5), some (.int (x6 + 1)), q7, q8] [] am_C0 h o g Q T)) : am_X L xs d 194 66 [some (.ref 64), some (.int x1), some (.int x2), some (.int x3), some (.int x4), some (.int x5), some (.int x6), q7, q8] [.int z0] am_C0 h o g Q T := by
  refine xo_10eq rfl (am_sp ?_ ?_ H)
  · intro hc1 H
    refine xo_0 rfl ?_
    refine xo_4 (lv' := [some (.ref 64), some (.int x1), some (.int x2), some (.int x3), some (.int x4), some (.int x5), some (.int x6), some (.int 1), q8]) rfl rfl rfl ?_
    exact H
  · intro hc1 H
    refine xo_12 rfl ?_
    refine xo_9 (z := (x6 + 1)) (lv' := [some (.ref 64), some (.int x1), some (.int x2), some (.int x3), some (.int x4), some (.int x5), some (.int (x6 + 1)), q7, q8]) rfl rfl rfl rfl rfl ?_
    refine xo_12 rfl ?_
    exact H
theorem sm_194_75 {x1 : Int32} {x2 : Int32} {x3 : Int32} {x4 : Int32} {x5 : Int32} {x6 : Int32} {x7 : Int32} {q8 : Option Value} (hq8 : am_nl q8 = true) (H : (if 60 < x7 then am_X L xs (d + 1) 194 48 [some (.ref 64), some (.int x1), some (.int x2), some (.int x3), some (.int x4), some (.int x5), some (.int (x6 + 1)), some (.int x7), q8] [] am_C0 h o g Q T else am_X L xs d 193 0 [some (.ref 64), some (.int x1), some (.int x6), some (.int x7), some (.int x3), none, none, none] [] am_C0 h o g (fun w h' o' g' => am_X L xs (d + 1) 194 92 [some (.ref 64), some (.int x1), some (.int x2), some (.int x3), some (.int x4), some (.int x5), some (.int x6), some (.int x7), q8] (w.toList ++ []) am_C0 h' o' g' Q T) T)) : am_X L xs (d + 1) 194 75 [some (.ref 64), some (.int x1), some (.int x2), some (.int x3), some (.int x4), some (.int x5), some (.int x6), some (.int x7), q8] [] am_C0 h o g Q T := by
  refine xo_1 rfl rfl ?_
  refine xo_0 rfl ?_
  refine xo_11gt rfl (am_sp ?_ ?_ H)
  · intro hc1 H
    refine xo_9 (z := (x6 + 1)) (lv' := [some (.ref 64), some (.int x1), some (.int x2), some (.int x3), some (.int x4), some (.int x5), some (.int (x6 + 1)), some (.int x7), q8]) rfl rfl rfl rfl rfl ?_
    refine xo_12 rfl ?_
    exact H
  · intro hc1 H
    refine xo_2 rfl rfl ?_
    refine xo_1 rfl rfl ?_
    refine xo_1 rfl rfl ?_
    refine xo_1 rfl rfl ?_
    refine xo_1 rfl rfl ?_
    refine cl_193_64 rfl hd_194 rfl ?_
    exact H
theorem sm_194_92 {x1 : Int32} {x2 : Int32} {x3 : Int32} {x4 : Int32} {x5 : Int32} {x6 : Int32} {x7 : Int32} {q8 : Option Value} {z0 : Int32} (hq8 : am_nl q8 = true) (H : (if x5 < z0 then am_X L xs d 194 75 [some (.ref 64), some (.int x1), some (.int x2), some (.int x3), some (.int ((100 * x6) + x7)), some (.int z0), some (.int x6), some (.int (x7 + 1)), some (.int z0)] [] am_C0 h o g Q T else am_X L xs d 194 75 [some (.ref 64), some (.int x1), some (.int x2), some (.int x3), some (.int x4), some (.int x5), some (.int x6), some (.int (x7 + 1)), some (.int z0)] [] am_C0 h o g Q T)) : am_X L xs d 194 92 [some (.ref 64), some (.int x1), some (.int x2), some (.int x3), some (.int x4), some (.int x5), some (.int x6), some (.int x7), q8] [.int z0] am_C0 h o g Q T := by
  refine xo_4 (lv' := [some (.ref 64), some (.int x1), some (.int x2), some (.int x3), some (.int x4), some (.int x5), some (.int x6), some (.int x7), some (.int z0)]) rfl rfl rfl ?_
  refine xo_1 rfl rfl ?_
  refine xo_1 rfl rfl ?_
  refine xo_11gt rfl (am_sp ?_ ?_ H)
  · intro hc1 H
    refine xo_1 rfl rfl ?_
    refine xo_4 (lv' := [some (.ref 64), some (.int x1), some (.int x2), some (.int x3), some (.int x4), some (.int z0), some (.int x6), some (.int x7), some (.int z0)]) rfl rfl rfl ?_
    refine xo_0 rfl ?_
    refine xo_1 rfl rfl ?_
    refine xo_7 rfl rfl ?_
    refine xo_1 rfl rfl ?_
    refine xo_7 rfl rfl ?_
    refine xo_4 (lv' := [some (.ref 64), some (.int x1), some (.int x2), some (.int x3), some (.int ((100 * x6) + x7)), some (.int z0), some (.int x6), some (.int x7), some (.int z0)]) rfl rfl rfl ?_
    refine xo_9 (z := (x7 + 1)) (lv' := [some (.ref 64), some (.int x1), some (.int x2), some (.int x3), some (.int ((100 * x6) + x7)), some (.int z0), some (.int x6), some (.int (x7 + 1)), some (.int z0)]) rfl rfl rfl rfl rfl ?_
    refine xo_12 rfl ?_
    exact H
  · intro hc1 H
    refine xo_12 rfl ?_
    refine xo_9 (z := (x7 + 1)) (lv' := [some (.ref 64), some (.int x1), some (.int x2), some (.int x3), some (.int x4), some (.int x5), some (.int x6), some (.int (x7 + 1)), some (.int z0)]) rfl rfl rfl rfl rfl ?_
    refine xo_12 rfl ?_
    exact H
theorem sm_195 {x1 : Int32} {x2 : Int32} {x3 : Int32} (H : (if x1 < 0 then Q (some (.int 0)) (am_set (am_set h 64 3 0) 64 3 1) o g else (if ((h 68 1) - 1) < x1 then Q (some (.int 0)) (am_set (am_set h 64 3 0) 64 3 1) o g else (if x2 < 0 then Q (some (.int 0)) (am_set (am_set h 64 3 0) 64 3 1) o g else (if ((h 68 0) - 1) < x2 then Q (some (.int 0)) (am_set (am_set h 64 3 0) 64 3 1) o g else (if x3 < 0 then Q (some (.int 0)) (am_set (am_set h 64 3 0) 64 3 1) o g else (if ((h 68 2) - 1) < x3 then Q (some (.int 0)) (am_set (am_set h 64 3 0) 64 3 1) o g else am_X L xs (d + 1) 172 0 [some (.ref 64), some (.int x1), some (.int x2), some (.int (h 64 28)), some (.int (-1)), none] [] am_C0 (am_set h 64 3 0) o g (fun w h' o' g' => am_X L xs (d + 2) 195 46 [some (.ref 64), some (.int x1), some (.int x2), some (.int x3), none] (w.toList ++ []) am_C0 h' o' g' Q T) T))))))) : am_X L xs (d + 2) 195 0 [some (.ref 64), some (.int x1), some (.int x2), some (.int x3), none] [] am_C0 h o g Q T := by
  refine xo_2 rfl rfl ?_
  refine xo_0 rfl ?_
  refine xo_14 rfl cf_64_3 ?_
  refine xo_2 rfl rfl ?_
  refine xo_1 rfl rfl ?_
  refine cl_157_64 rfl hd_195 rfl ?_
  refine xo_1 rfl rfl ?_
  refine xo_0 rfl ?_
  refine xo_2 rfl rfl ?_
  refine xo_13r rfl cr_64_4 ?_
  refine xo_0 rfl ?_
  refine xo_17 rfl ca_68 (am_ix.lit rfl) ?_
  refine xo_0 rfl ?_
  refine xo_7 rfl rfl ?_
  refine cl_150 rfl hd_157 rfl ?_
  refine xo_1 rfl rfl ?_
  refine xo_1 rfl rfl ?_
  refine xo_11lt rfl (am_sp ?_ ?_ H)
  · intro hc1 H
    refine xo_0 rfl ?_
    refine xr_42 rfl rfl ?_
    refine xr_42 rfl rfl ?_
    refine xo_10 rfl (by decide) ?_
    refine xo_2 rfl rfl ?_
    refine xo_0 rfl ?_
    refine cl_133_64 rfl hd_195 rfl ?_
    refine xo_2 rfl rfl ?_
    refine xo_1 rfl rfl ?_
    refine xo_14 rfl cf_64_3 ?_
    refine xo_0 rfl ?_
    refine xr_41 rfl ?_
    refine xo_41 rfl ?_
    exact H
  · intro hc1 H
    refine xo_1 rfl rfl ?_
    refine xo_1 rfl rfl ?_
    refine xo_11gt rfl (am_sp ?_ ?_ H)
    · intro hc2 H
      refine xo_0 rfl ?_
      refine xr_42 rfl rfl ?_
      refine xr_42 rfl rfl ?_
      refine xo_10 rfl (by decide) ?_
      refine xo_2 rfl rfl ?_
      refine xo_0 rfl ?_
      refine cl_133_64 rfl hd_195 rfl ?_
      refine xo_2 rfl rfl ?_
      refine xo_1 rfl rfl ?_
      refine xo_14 rfl cf_64_3 ?_
      refine xo_0 rfl ?_
      refine xr_41 rfl ?_
      refine xo_41 rfl ?_
      exact H
    · intro hc2 H
      refine xo_0 rfl ?_
      refine xo_12 rfl ?_
      refine xr_42 rfl rfl ?_
      refine xr_42 rfl rfl ?_
      refine xo_10n rfl (by decide) ?_
      refine xo_2 rfl rfl ?_
      refine xo_1 rfl rfl ?_
      refine cl_152_64 rfl hd_195 rfl ?_
      refine xo_1 rfl rfl ?_
      refine xo_0 rfl ?_
      refine xo_2 rfl rfl ?_
      refine xo_13r rfl cr_64_4 ?_
      refine xo_0 rfl ?_
      refine xo_17 rfl ca_68 (am_ix.lit rfl) ?_
      refine xo_0 rfl ?_
      refine xo_7 rfl rfl ?_
      refine cl_150 rfl hd_152 rfl ?_
      refine xo_1 rfl rfl ?_
      refine xo_1 rfl rfl ?_
      refine xo_11lt rfl (am_sp ?_ ?_ H)
      · intro hc3 H
        refine xo_0 rfl ?_
        refine xr_42 rfl rfl ?_
        refine xr_42 rfl rfl ?_
        refine xo_10 rfl (by decide) ?_
        refine xo_2 rfl rfl ?_
        refine xo_0 rfl ?_
        refine cl_133_64 rfl hd_195 rfl ?_
        refine xo_2 rfl rfl ?_
        refine xo_1 rfl rfl ?_
        refine xo_14 rfl cf_64_3 ?_
        refine xo_0 rfl ?_
        refine xr_41 rfl ?_
        refine xo_41 rfl ?_
        exact H
      · intro hc3 H
        refine xo_1 rfl rfl ?_
        refine xo_1 rfl rfl ?_
        refine xo_11gt rfl (am_sp ?_ ?_ H)
        · intro hc4 H
          refine xo_0 rfl ?_
          refine xr_42 rfl rfl ?_
          refine xr_42 rfl rfl ?_
          refine xo_10 rfl (by decide) ?_
          refine xo_2 rfl rfl ?_
          refine xo_0 rfl ?_
          refine cl_133_64 rfl hd_195 rfl ?_
          refine xo_2 rfl rfl ?_
          refine xo_1 rfl rfl ?_
          refine xo_14 rfl cf_64_3 ?_
          refine xo_0 rfl ?_
          refine xr_41 rfl ?_
          refine xo_41 rfl ?_
          exact H
        · intro hc4 H
          refine xo_0 rfl ?_
          refine xo_12 rfl ?_
          refine xr_42 rfl rfl ?_
          refine xr_42 rfl rfl ?_
          refine xo_10n rfl (by decide) ?_
          refine xo_2 rfl rfl ?_
          refine xo_1 rfl rfl ?_
          refine cl_160_64 rfl hd_195 rfl ?_
          refine xo_1 rfl rfl ?_
          refine xo_0 rfl ?_
          refine xo_2 rfl rfl ?_
          refine xo_13r rfl cr_64_4 ?_
          refine xo_0 rfl ?_
          refine xo_17 rfl ca_68 (am_ix.lit rfl) ?_
          refine xo_0 rfl ?_
          refine xo_7 rfl rfl ?_
          refine cl_150 rfl hd_160 rfl ?_
          refine xo_1 rfl rfl ?_
          refine xo_1 rfl rfl ?_
          refine xo_11lt rfl (am_sp ?_ ?_ H)
          · intro hc5 H
            refine xo_0 rfl ?_
            refine xr_42 rfl rfl ?_
            refine xr_42 rfl rfl ?_
            refine xo_10n rfl (by decide) ?_
            refine xo_2 rfl rfl ?_
            refine xo_0 rfl ?_
            refine cl_133_64 rfl hd_195 rfl ?_
            refine xo_2 rfl rfl ?_
            refine xo_1 rfl rfl ?_
            refine xo_14 rfl cf_64_3 ?_
            refine xo_0 rfl ?_
            refine xr_41 rfl ?_
            refine xo_41 rfl ?_
            exact H
          · intro hc5 H
            refine xo_1 rfl rfl ?_
            refine xo_1 rfl rfl ?_
            refine xo_11gt rfl (am_sp ?_ ?_ H)
            · intro hc6 H
              refine xo_0 rfl ?_
              refine xr_42 rfl rfl ?_
              refine xr_42 rfl rfl ?_
              refine xo_10n rfl (by decide) ?_
              refine xo_2 rfl rfl ?_
              refine xo_0 rfl ?_
              refine cl_133_64 rfl hd_195 rfl ?_
              refine xo_2 rfl rfl ?_
              refine xo_1 rfl rfl ?_
              refine xo_14 rfl cf_64_3 ?_
              refine xo_0 rfl ?_
              refine xr_41 rfl ?_
              refine xo_41 rfl ?_
              exact H
            · intro hc6 H
              refine xo_0 rfl ?_
              refine xo_12 rfl ?_
              refine xr_42 rfl rfl ?_
              refine xr_42 rfl rfl ?_
              refine xo_10 rfl (by decide) ?_
              refine xo_2 rfl rfl ?_
              refine xo_1 rfl rfl ?_
              refine xo_1 rfl rfl ?_
              refine xo_2 rfl rfl ?_
              refine xo_13 rfl cf_64_28 ?_
              refine xo_0 rfl ?_
              refine cl_172_64 rfl hd_195 rfl ?_
              exact H
theorem sm_195_46 {q1 : Option Value} {x2 : Int32} {x3 : Int32} {q4 : Option Value} (hq1 : am_nl q1 = true) (hq4 : am_nl q4 = true) (H : am_X L xs d 195 49 [some (.ref 64), q1, some (.int x2), some (.int x3), some (.int 0)] [] am_C0 h o g Q T) : am_X L xs d 195 46 [some (.ref 64), q1, some (.int x2), some (.int x3), q4] [] am_C0 h o g Q T := by
  refine xo_0 rfl ?_
  refine xo_4 (lv' := [some (.ref 64), q1, some (.int x2), some (.int x3), some (.int 0)]) rfl rfl rfl ?_
  exact H
theorem sm_195_49 {q1 : Option Value} {x2 : Int32} {x3 : Int32} {x4 : Int32} (hq1 : am_nl q1 = true) (H : (if 9999 < x4 then Q (some (.int (x4 - 1))) h o g else (am_ix x2 10 ∧ (am_ix x2 5 ∧ am_X L xs d 177 0 [some (.ref 64), some (.int x2), some (.int x3), some (.int (h 71 x2.toNatClampNeg)), some (.int x4), some (.int (h 77 x2.toNatClampNeg))] [] am_C0 h o g (fun w h' o' g' => am_X L xs (d + 1) 195 77 [some (.ref 64), q1, some (.int x2), some (.int x3), some (.int x4)] (w.toList ++ []) am_C0 h' o' g' Q T) T)))) : am_X L xs (d + 1) 195 49 [some (.ref 64), q1, some (.int x2), some (.int x3), some (.int x4)] [] am_C0 h o g Q T := by
  refine xo_1 rfl rfl ?_
  refine xo_0 rfl ?_
  refine xo_11gt rfl (am_sp ?_ ?_ H)
  · intro hc1 H
    refine xo_1 rfl rfl ?_
    refine xo_0 rfl ?_
    refine xo_7 rfl rfl ?_
    refine xo_41 rfl ?_
    exact H
  · intro hc1 H
    refine xo_2 rfl rfl ?_
    refine xo_1 rfl rfl ?_
    refine xo_1 rfl rfl ?_
    refine xo_2 rfl rfl ?_
    refine xo_13r rfl cr_64_7 ?_
    refine xo_1 rfl rfl ?_
    obtain ⟨hg2, H⟩ := H
    refine xo_17 rfl ca_71 hg2 ?_
    refine xo_1 rfl rfl ?_
    refine xo_2 rfl rfl ?_
    refine xo_13r rfl cr_64_13 ?_
    refine xo_1 rfl rfl ?_
    obtain ⟨hg3, H⟩ := H
    refine xo_17 rfl ca_77 hg3 ?_
    refine cl_177_64 rfl hd_195 rfl ?_
    exact H
theorem sm_195_77 {q1 : Option Value} {x2 : Int32} {x3 : Int32} {x4 : Int32} {z0 : Int32} (hq1 : am_nl q1 = true) (H : (if z0 = 0 then Q (some (.int (x4 - 1))) h o g else am_X L xs d 195 49 [some (.ref 64), q1, some (.int x2), some (.int x3), some (.int (x4 + 1))] [] am_C0 h o g Q T)) : am_X L xs d 195 77 [some (.ref 64), q1, some (.int x2), some (.int x3), some (.int x4)] [.int z0] am_C0 h o g Q T := by
  refine xo_10eq rfl (am_sp ?_ ?_ H)
  · intro hc1 H
    refine xo_1 rfl rfl ?_
    refine xo_0 rfl ?_
    refine xo_7 rfl rfl ?_
    refine xo_41 rfl ?_
    exact H
  · intro hc1 H
    refine xo_9 (z := (x4 + 1)) (lv' := [some (.ref 64), q1, some (.int x2), some (.int x3), some (.int (x4 + 1))]) rfl rfl rfl rfl rfl ?_
    refine xo_12 rfl ?_
    exact H
theorem sm_196 {x1 : Int32} {x2 : Int32} {x3 : Int32} (H : (if x1 < 0 then Q (some (.int 0)) (am_set (am_set h 64 3 0) 64 3 1) o g else (if ((h 68 1) - 1) < x1 then Q (some (.int 0)) (am_set (am_set h 64 3 0) 64 3 1) o g else (if x2 < 0 then Q (some (.int 0)) (am_set (am_set h 64 3 0) 64 3 1) o g else (if ((h 68 0) - 1) < x2 then Q (some (.int 0)) (am_set (am_set h 64 3 0) 64 3 1) o g else (if x3 < 0 then Q (some (.int 0)) (am_set (am_set h 64 3 0) 64 3 1) o g else (if ((h 68 2) - 1) < x3 then Q (some (.int 0)) (am_set (am_set h 64 3 0) 64 3 1) o g else am_X L xs (d + 1) 172 0 [some (.ref 64), some (.int x1), some (.int x2), some (.int (h 64 28)), some (.int (-1)), none] [] am_C0 (am_set h 64 3 0) o g (fun w h' o' g' => am_X L xs (d + 2) 196 46 [some (.ref 64), some (.int x1), some (.int x2), some (.int x3), none] (w.toList ++ []) am_C0 h' o' g' Q T) T))))))) : am_X L xs (d + 2) 196 0 [some (.ref 64), some (.int x1), some (.int x2), some (.int x3), none] [] am_C0 h o g Q T := by
  refine xo_2 rfl rfl ?_
  refine xo_0 rfl ?_
  refine xo_14 rfl cf_64_3 ?_
  refine xo_2 rfl rfl ?_
  refine xo_1 rfl rfl ?_
  refine cl_157_64 rfl hd_196 rfl ?_
  refine xo_1 rfl rfl ?_
  refine xo_0 rfl ?_
  refine xo_2 rfl rfl ?_
  refine xo_13r rfl cr_64_4 ?_
  refine xo_0 rfl ?_
  refine xo_17 rfl ca_68 (am_ix.lit rfl) ?_
  refine xo_0 rfl ?_
  refine xo_7 rfl rfl ?_
  refine cl_150 rfl hd_157 rfl ?_
  refine xo_1 rfl rfl ?_
  refine xo_1 rfl rfl ?_
  refine xo_11lt rfl (am_sp ?_ ?_ H)
  · intro hc1 H
    refine xo_0 rfl ?_
    refine xr_42 rfl rfl ?_
    refine xr_42 rfl rfl ?_
    refine xo_10 rfl (by decide) ?_
    refine xo_2 rfl rfl ?_
    refine xo_0 rfl ?_
    refine cl_133_64 rfl hd_196 rfl ?_
    refine xo_2 rfl rfl ?_
    refine xo_1 rfl rfl ?_
    refine xo_14 rfl cf_64_3 ?_
    refine xo_0 rfl ?_
    refine xr_41 rfl ?_
    refine xo_41 rfl ?_
    exact H
  · intro hc1 H
    refine xo_1 rfl rfl ?_
    refine xo_1 rfl rfl ?_
    refine xo_11gt rfl (am_sp ?_ ?_ H)
    · intro hc2 H
      refine xo_0 rfl ?_
      refine xr_42 rfl rfl ?_
      refine xr_42 rfl rfl ?_
      refine xo_10 rfl (by decide) ?_
      refine xo_2 rfl rfl ?_
      refine xo_0 rfl ?_
      refine cl_133_64 rfl hd_196 rfl ?_
      refine xo_2 rfl rfl ?_
      refine xo_1 rfl rfl ?_
      refine xo_14 rfl cf_64_3 ?_
      refine xo_0 rfl ?_
      refine xr_41 rfl ?_
      refine xo_41 rfl ?_
      exact H
    · intro hc2 H
      refine xo_0 rfl ?_
      refine xo_12 rfl ?_
      refine xr_42 rfl rfl ?_
      refine xr_42 rfl rfl ?_
      refine xo_10n rfl (by decide) ?_
      refine xo_2 rfl rfl ?_
      refine xo_1 rfl rfl ?_
      refine cl_152_64 rfl hd_196 rfl ?_
      refine xo_1 rfl rfl ?_
      refine xo_0 rfl ?_
      refine xo_2 rfl rfl ?_
      refine xo_13r rfl cr_64_4 ?_
      refine xo_0 rfl ?_
      refine xo_17 rfl ca_68 (am_ix.lit rfl) ?_
      refine xo_0 rfl ?_
      refine xo_7 rfl rfl ?_
      refine cl_150 rfl hd_152 rfl ?_
      refine xo_1 rfl rfl ?_
      refine xo_1 rfl rfl ?_
      refine xo_11lt rfl (am_sp ?_ ?_ H)
      · intro hc3 H
        refine xo_0 rfl ?_
        refine xr_42 rfl rfl ?_
        refine xr_42 rfl rfl ?_
        refine xo_10 rfl (by decide) ?_
        refine xo_2 rfl rfl ?_
        refine xo_0 rfl ?_
        refine cl_133_64 rfl hd_196 rfl ?_
        refine xo_2 rfl rfl ?_
        refine xo_1 rfl rfl ?_
        refine xo_14 rfl cf_64_3 ?_
        refine xo_0 rfl ?_
        refine xr_41 rfl ?_
        refine xo_41 rfl ?_
        exact H
      · intro hc3 H
        refine xo_1 rfl rfl ?_
        refine xo_1 rfl rfl ?_
        refine xo_11gt rfl (am_sp ?_ ?_ H)
        · intro hc4 H
          refine xo_0 rfl ?_
          refine xr_42 rfl rfl ?_
          refine xr_42 rfl rfl ?_
          refine xo_10 rfl (by decide) ?_
          refine xo_2 rfl rfl ?_
          refine xo_0 rfl ?_
          refine cl_133_64 rfl hd_196 rfl ?_
          refine xo_2 rfl rfl ?_
          refine xo_1 rfl rfl ?_
          refine xo_14 rfl cf_64_3 ?_
          refine xo_0 rfl ?_
          refine xr_41 rfl ?_
          refine xo_41 rfl ?_
          exact H
        · intro hc4 H
          refine xo_0 rfl ?_
          refine xo_12 rfl ?_
          refine xr_42 rfl rfl ?_
          refine xr_42 rfl rfl ?_
          refine xo_10n rfl (by decide) ?_
          refine xo_2 rfl rfl ?_
          refine xo_1 rfl rfl ?_
          refine cl_160_64 rfl hd_196 rfl ?_
          refine xo_1 rfl rfl ?_
          refine xo_0 rfl ?_
          refine xo_2 rfl rfl ?_
          refine xo_13r rfl cr_64_4 ?_
          refine xo_0 rfl ?_
          refine xo_17 rfl ca_68 (am_ix.lit rfl) ?_
          refine xo_0 rfl ?_
          refine xo_7 rfl rfl ?_
          refine cl_150 rfl hd_160 rfl ?_
          refine xo_1 rfl rfl ?_
          refine xo_1 rfl rfl ?_
          refine xo_11lt rfl (am_sp ?_ ?_ H)
          · intro hc5 H
            refine xo_0 rfl ?_
            refine xr_42 rfl rfl ?_
            refine xr_42 rfl rfl ?_
            refine xo_10n rfl (by decide) ?_
            refine xo_2 rfl rfl ?_
            refine xo_0 rfl ?_
            refine cl_133_64 rfl hd_196 rfl ?_
            refine xo_2 rfl rfl ?_
            refine xo_1 rfl rfl ?_
            refine xo_14 rfl cf_64_3 ?_
            refine xo_0 rfl ?_
            refine xr_41 rfl ?_
            refine xo_41 rfl ?_
            exact H
          · intro hc5 H
            refine xo_1 rfl rfl ?_
            refine xo_1 rfl rfl ?_
            refine xo_11gt rfl (am_sp ?_ ?_ H)
            · intro hc6 H
              refine xo_0 rfl ?_
              refine xr_42 rfl rfl ?_
              refine xr_42 rfl rfl ?_
              refine xo_10n rfl (by decide) ?_
              refine xo_2 rfl rfl ?_
              refine xo_0 rfl ?_
              refine cl_133_64 rfl hd_196 rfl ?_
              refine xo_2 rfl rfl ?_
              refine xo_1 rfl rfl ?_
              refine xo_14 rfl cf_64_3 ?_
              refine xo_0 rfl ?_
              refine xr_41 rfl ?_
              refine xo_41 rfl ?_
              exact H
            · intro hc6 H
              refine xo_0 rfl ?_
              refine xo_12 rfl ?_
              refine xr_42 rfl rfl ?_
              refine xr_42 rfl rfl ?_
              refine xo_10 rfl (by decide) ?_
              refine xo_2 rfl rfl ?_
              refine xo_1 rfl rfl ?_
              refine xo_1 rfl rfl ?_
              refine xo_2 rfl rfl ?_
              refine xo_13 rfl cf_64_28 ?_
              refine xo_0 rfl ?_
              refine cl_172_64 rfl hd_196 rfl ?_
              exact H
theorem sm_196_46 {q1 : Option Value} {x2 : Int32} {x3 : Int32} {q4 : Option Value} (hq1 : am_nl q1 = true) (hq4 : am_nl q4 = true) (H : am_X L xs d 196 49 [some (.ref 64), q1, some (.int x2), some (.int x3), some (.int 0)] [] am_C0 h o g Q T) : am_X L xs d 196 46 [some (.ref 64), q1, some (.int x2), some (.int x3), q4] [] am_C0 h o g Q T := by
  refine xo_0 rfl ?_
  refine xo_4 (lv' := [some (.ref 64), q1, some (.int x2), some (.int x3), some (.int 0)]) rfl rfl rfl ?_
  exact H
theorem sm_196_49 {q1 : Option Value} {x2 : Int32} {x3 : Int32} {x4 : Int32} (hq1 : am_nl q1 = true) (H : (if 99 < x4 then Q (some (.int (x4 - 1))) h o g else (am_ix x2 10 ∧ am_X L xs d 177 0 [some (.ref 64), some (.int x2), some (.int x3), some (.int (h 71 x2.toNatClampNeg)), some (.int 0), some (.int x4)] [] am_C0 h o g (fun w h' o' g' => am_X L xs (d + 1) 196 71 [some (.ref 64), q1, some (.int x2), some (.int x3), some (.int x4)] (w.toList ++ []) am_C0 h' o' g' Q T) T))) : am_X L xs (d + 1) 196 49 [some (.ref 64), q1, some (.int x2), some (.int x3), some (.int x4)] [] am_C0 h o g Q T := by
  refine xo_1 rfl rfl ?_
  refine xo_0 rfl ?_
  refine xo_11gt rfl (am_sp ?_ ?_ H)
  · intro hc1 H
    refine xo_1 rfl rfl ?_
    refine xo_0 rfl ?_
    refine xo_7 rfl rfl ?_
    refine xo_41 rfl ?_
    exact H
  · intro hc1 H
    refine xo_2 rfl rfl ?_
    refine xo_1 rfl rfl ?_
    refine xo_1 rfl rfl ?_
    refine xo_2 rfl rfl ?_
    refine xo_13r rfl cr_64_7 ?_
    refine xo_1 rfl rfl ?_
    obtain ⟨hg2, H⟩ := H
    refine xo_17 rfl ca_71 hg2 ?_
    refine xo_0 rfl ?_
    refine xo_1 rfl rfl ?_
    refine cl_177_64 rfl hd_196 rfl ?_
    exact H
theorem sm_196_71 {q1 : Option Value} {x2 : Int32} {x3 : Int32} {x4 : Int32} {z0 : Int32} (hq1 : am_nl q1 = true) (H : (if z0 = 0 then Q (some (.int (x4 - 1))) h o g else am_X L xs d 196 49 [some (.ref 64), q1, some (.int x2), some (.int x3), some (.int (x4 + 1))] [] am_C0 h o g Q T)) : am_X L xs d 196 71 [some (.ref 64), q1, some (.int x2), some (.int x3), some (.int x4)] [.int z0] am_C0 h o g Q T := by
  refine xo_10eq rfl (am_sp ?_ ?_ H)
  · intro hc1 H
    refine xo_1 rfl rfl ?_
    refine xo_0 rfl ?_
    refine xo_7 rfl rfl ?_
    refine xo_41 rfl ?_
    exact H
  · intro hc1 H
    refine xo_9 (z := (x4 + 1)) (lv' := [some (.ref 64), q1, some (.int x2), some (.int x3), some (.int (x4 + 1))]) rfl rfl rfl rfl rfl ?_
    refine xo_12 rfl ?_
    exact H
theorem sm_197 {x1 : Int32} {x2 : Int32} {x3 : Int32} {x4 : Int32} {x5 : Int32} {x6 : Int32} (H : (if x1 < 0 then Q (some (.int 0)) (am_set (am_set h 64 3 0) 64 3 1) o g else (if ((h 68 1) - 1) < x1 then Q (some (.int 0)) (am_set (am_set h 64 3 0) 64 3 1) o g else (if x2 < 0 then Q (some (.int 0)) (am_set (am_set h 64 3 0) 64 3 1) o g else (if ((h 68 0) - 1) < x2 then Q (some (.int 0)) (am_set (am_set h 64 3 0) 64 3 1) o g else (if x3 < 0 then Q (some (.int 0)) (am_set (am_set h 64 3 0) 64 3 1) o g else (if ((h 68 2) - 1) < x3 then Q (some (.int 0)) (am_set (am_set h 64 3 0) 64 3 1) o g else (if x4 < 0 then Q (some (.int 0)) (am_set (am_set h 64 3 0) 64 3 1) o g else (if 99 < x4 then Q (some (.int 0)) (am_set (am_set h 64 3 0) 64 3 1) o g else (if x6 < 0 then Q (some (.int 0)) (am_set (am_set h 64 3 0) 64 3 2) o g else (if (h 64 28) < x6 then Q (some (.int 0)) (am_set (am_set h 64 3 0) 64 3 2) o g else am_X L xs (d + 1) 153 0 [some (.ref 64), some (.int x2), none] [] am_C0 (am_set h 64 3 0) o g (fun w h' o' g' => am_X L xs (d + 2) 197 70 [some (.ref 64), some (.int x1), some (.int x2), some (.int x3), some (.int x4), some (.int x5), some (.int x6), none, none] (w.toList ++ []) am_C0 h' o' g' Q T) T))))))))))) : am_X L xs (d + 2) 197 0 [some (.ref 64), some (.int x1), some (.int x2), some (.int x3), some (.int x4), some (.int x5), some (.int x6), none, none] [] am_C0 h o g Q T := by
  refine xo_2 rfl rfl ?_
  refine xo_0 rfl ?_
  refine xo_14 rfl cf_64_3 ?_
  refine xo_2 rfl rfl ?_
  refine xo_1 rfl rfl ?_
  refine cl_157_64 rfl hd_197 rfl ?_
  refine xo_1 rfl rfl ?_
  refine xo_0 rfl ?_
  refine xo_2 rfl rfl ?_
  refine xo_13r rfl cr_64_4 ?_
  refine xo_0 rfl ?_
  refine xo_17 rfl ca_68 (am_ix.lit rfl) ?_
  refine xo_0 rfl ?_
  refine xo_7 rfl rfl ?_
  refine cl_150 rfl hd_157 rfl ?_
  refine xo_1 rfl rfl ?_
  refine xo_1 rfl rfl ?_
  refine xo_11lt rfl (am_sp ?_ ?_ H)
  · intro hc1 H
    refine xo_0 rfl ?_
    refine xr_42 rfl rfl ?_
    refine xr_42 rfl rfl ?_
    refine xo_10 rfl (by decide) ?_
    refine xo_2 rfl rfl ?_
    refine xo_0 rfl ?_
    refine cl_133_64 rfl hd_197 rfl ?_
    refine xo_2 rfl rfl ?_
    refine xo_1 rfl rfl ?_
    refine xo_14 rfl cf_64_3 ?_
    refine xo_0 rfl ?_
    refine xr_41 rfl ?_
    refine xo_41 rfl ?_
    exact H
  · intro hc1 H
    refine xo_1 rfl rfl ?_
    refine xo_1 rfl rfl ?_
    refine xo_11gt rfl (am_sp ?_ ?_ H)
    · intro hc2 H
      refine xo_0 rfl ?_
      refine xr_42 rfl rfl ?_
      refine xr_42 rfl rfl ?_
      refine xo_10 rfl (by decide) ?_
      refine xo_2 rfl rfl ?_
      refine xo_0 rfl ?_
      refine cl_133_64 rfl hd_197 rfl ?_
      refine xo_2 rfl rfl ?_
      refine xo_1 rfl rfl ?_
      refine xo_14 rfl cf_64_3 ?_
      refine xo_0 rfl ?_
      refine xr_41 rfl ?_
      refine xo_41 rfl ?_
      exact H
    · intro hc2 H
      refine xo_0 rfl ?_
      refine xo_12 rfl ?_
      refine xr_42 rfl rfl ?_
      refine xr_42 rfl rfl ?_
      refine xo_10n rfl (by decide) ?_
      refine xo_2 rfl rfl ?_
      refine xo_1 rfl rfl ?_
      refine cl_152_64 rfl hd_197 rfl ?_
      refine xo_1 rfl rfl ?_
      refine xo_0 rfl ?_
      refine xo_2 rfl rfl ?_
      refine xo_13r rfl cr_64_4 ?_
      refine xo_0 rfl ?_
      refine xo_17 rfl ca_68 (am_ix.lit rfl) ?_
      refine xo_0 rfl ?_
      refine xo_7 rfl rfl ?_
      refine cl_150 rfl hd_152 rfl ?_
      refine xo_1 rfl rfl ?_
      refine xo_1 rfl rfl ?_
      refine xo_11lt rfl (am_sp ?_ ?_ H)
      · intro hc3 H
        refine xo_0 rfl ?_
        refine xr_42 rfl rfl ?_
        refine xr_42 rfl rfl ?_
        refine xo_10 rfl (by decide) ?_
        refine xo_2 rfl rfl ?_
        refine xo_0 rfl ?_
        refine cl_133_64 rfl hd_197 rfl ?_
        refine xo_2 rfl rfl ?_
        refine xo_1 rfl rfl ?_
        refine xo_14 rfl cf_64_3 ?_
        refine xo_0 rfl ?_
        refine xr_41 rfl ?_
        refine xo_41 rfl ?_
        exact H
      · intro hc3 H
        refine xo_1 rfl rfl ?_
        refine xo_1 rfl rfl ?_
        refine xo_11gt rfl (am_sp ?_ ?_ H)
        · intro hc4 H
          refine xo_0 rfl ?_
          refine xr_42 rfl rfl ?_
          refine xr_42 rfl rfl ?_
          refine xo_10 rfl (by decide) ?_
          refine xo_2 rfl rfl ?_
          refine xo_0 rfl ?_
          refine cl_133_64 rfl hd_197 rfl ?_
          refine xo_2 rfl rfl ?_
          refine xo_1 rfl rfl ?_
          refine xo_14 rfl cf_64_3 ?_
          refine xo_0 rfl ?_
          refine xr_41 rfl ?_
          refine xo_41 rfl ?_
          exact H
        · intro hc4 H
          refine xo_0 rfl ?_
          refine xo_12 rfl ?_
          refine xr_42 rfl rfl ?_
          refine xr_42 rfl rfl ?_
          refine xo_10n rfl (by decide) ?_
          refine xo_2 rfl rfl ?_
          refine xo_1 rfl rfl ?_
          refine cl_160_64 rfl hd_197 rfl ?_
          refine xo_1 rfl rfl ?_
          refine xo_0 rfl ?_
          refine xo_2 rfl rfl ?_
          refine xo_13r rfl cr_64_4 ?_
          refine xo_0 rfl ?_
          refine xo_17 rfl ca_68 (am_ix.lit rfl) ?_
          refine xo_0 rfl ?_
          refine xo_7 rfl rfl ?_
          refine cl_150 rfl hd_160 rfl ?_
          refine xo_1 rfl rfl ?_
          refine xo_1 rfl rfl ?_
          refine xo_11lt rfl (am_sp ?_ ?_ H)
          · intro hc5 H
            refine xo_0 rfl ?_
            refine xr_42 rfl rfl ?_
            refine xr_42 rfl rfl ?_
            refine xo_10 rfl (by decide) ?_
            refine xo_2 rfl rfl ?_
            refine xo_0 rfl ?_
            refine cl_133_64 rfl hd_197 rfl ?_
            refine xo_2 rfl rfl ?_
            refine xo_1 rfl rfl ?_
            refine xo_14 rfl cf_64_3 ?_
            refine xo_0 rfl ?_
            refine xr_41 rfl ?_
            refine xo_41 rfl ?_
            exact H
          · intro hc5 H
            refine xo_1 rfl rfl ?_
            refine xo_1 rfl rfl ?_
            refine xo_11gt rfl (am_sp ?_ ?_ H)
            · intro hc6 H
              refine xo_0 rfl ?_
              refine xr_42 rfl rfl ?_
              refine xr_42 rfl rfl ?_
              refine xo_10 rfl (by decide) ?_
              refine xo_2 rfl rfl ?_
              refine xo_0 rfl ?_
              refine cl_133_64 rfl hd_197 rfl ?_
              refine xo_2 rfl rfl ?_
              refine xo_1 rfl rfl ?_
              refine xo_14 rfl cf_64_3 ?_
              refine xo_0 rfl ?_
              refine xr_41 rfl ?_
              refine xo_41 rfl ?_
              exact H
            · intro hc6 H
              refine xo_0 rfl ?_
              refine xo_12 rfl ?_
              refine xr_42 rfl rfl ?_
              refine xr_42 rfl rfl ?_
              refine xo_10n rfl (by decide) ?_
              refine xo_1 rfl rfl ?_
              refine xo_0 rfl ?_
              refine xo_0 rfl ?_
              refine cl_150 rfl hd_197 rfl ?_
              refine xo_1 rfl rfl ?_
              refine xo_1 rfl rfl ?_
              refine xo_11lt rfl (am_sp ?_ ?_ H)
              · intro hc7 H
                refine xo_0 rfl ?_
                refine xr_42 rfl rfl ?_
                refine xo_10n rfl (by decide) ?_
                refine xo_2 rfl rfl ?_
                refine xo_0 rfl ?_
                refine cl_133_64 rfl hd_197 rfl ?_
                refine xo_2 rfl rfl ?_
                refine xo_1 rfl rfl ?_
                refine xo_14 rfl cf_64_3 ?_
                refine xo_0 rfl ?_
                refine xr_41 rfl ?_
                refine xo_41 rfl ?_
                exact H
              · intro hc7 H
                refine xo_1 rfl rfl ?_
                refine xo_1 rfl rfl ?_
                refine xo_11gt rfl (am_sp ?_ ?_ H)
                · intro hc8 H
                  refine xo_0 rfl ?_
                  refine xr_42 rfl rfl ?_
                  refine xo_10n rfl (by decide) ?_
                  refine xo_2 rfl rfl ?_
                  refine xo_0 rfl ?_
                  refine cl_133_64 rfl hd_197 rfl ?_
                  refine xo_2 rfl rfl ?_
                  refine xo_1 rfl rfl ?_
                  refine xo_14 rfl cf_64_3 ?_
                  refine xo_0 rfl ?_
                  refine xr_41 rfl ?_
                  refine xo_41 rfl ?_
                  exact H
                · intro hc8 H
                  refine xo_0 rfl ?_
                  refine xo_12 rfl ?_
                  refine xr_42 rfl rfl ?_
                  refine xo_10 rfl (by decide) ?_
                  refine xo_1 rfl rfl ?_
                  refine xo_0 rfl ?_
                  refine xo_2 rfl rfl ?_
                  refine xo_13 rfl cf_64_28 ?_
                  refine cl_150 rfl hd_197 rfl ?_
                  refine xo_1 rfl rfl ?_
                  refine xo_1 rfl rfl ?_
                  refine xo_11lt rfl (am_sp ?_ ?_ H)
                  · intro hc9 H
                    refine xo_0 rfl ?_
                    refine xr_42 rfl rfl ?_
                    refine xo_10n rfl (by decide) ?_
                    refine xo_2 rfl rfl ?_
                    refine xo_0 rfl ?_
                    refine cl_133_64 rfl hd_197 rfl ?_
                    refine xo_2 rfl rfl ?_
                    refine xo_1 rfl rfl ?_
                    refine xo_14 rfl cf_64_3 ?_
                    refine xo_0 rfl ?_
                    refine xr_41 rfl ?_
                    refine xo_41 rfl ?_
                    exact H
                  · intro hc9 H
                    refine xo_1 rfl rfl ?_
                    refine xo_1 rfl rfl ?_
                    refine xo_11gt rfl (am_sp ?_ ?_ H)
                    · intro hc10 H
                      refine xo_0 rfl ?_
                      refine xr_42 rfl rfl ?_
                      refine xo_10n rfl (by decide) ?_
                      refine xo_2 rfl rfl ?_
                      refine xo_0 rfl ?_
                      refine cl_133_64 rfl hd_197 rfl ?_
                      refine xo_2 rfl rfl ?_
                      refine xo_1 rfl rfl ?_
                      refine xo_14 rfl cf_64_3 ?_
                      refine xo_0 rfl ?_
                      refine xr_41 rfl ?_
                      refine xo_41 rfl ?_
                      exact H
                    · intro hc10 H
                      refine xo_0 rfl ?_
                      refine xo_12 rfl ?_
                      refine xr_42 rfl rfl ?_
                      refine xo_10 rfl (by decide) ?_
                      refine xo_2 rfl rfl ?_
                      refine xo_1 rfl rfl ?_
                      refine cl_153_64 rfl hd_197 rfl ?_
                      exact H
theorem sm_197_70 {x1 : Int32} {x2 : Int32} {x3 : Int32} {x4 : Int32} {x5 : Int32} {x6 : Int32} {q7 : Option Value} {q8 : Option Value} (hq7 : am_nl q7 = true) (hq8 : am_nl q8 = true) (H : (if x5 < (h 64 35) then Q (some (.int (-1))) h o g else (if (h 64 36) < x5 then Q (some (.int (-1))) h o g else (am_ix x2 5 ∧ (am_ix x2 10 ∧ am_X L xs d 179 0 [some (.ref 64), some (.int x2), some (.int x3), some (.int x4), some (.int 0), some (.int (x5 + ((h 73 x2.toNatClampNeg) * ((h 77 x2.toNatClampNeg) / 10)))), none] [] am_C0 h o g (fun w h' o' g' => am_X L xs (d + 1) 197 110 [some (.ref 64), some (.int x1), some (.int x2), some (.int x3), some (.int x4), some (.int x5), some (.int x6), q7, q8] (w.toList ++ []) am_C0 h' o' g' Q T) T))))) : am_X L xs (d + 1) 197 70 [some (.ref 64), some (.int x1), some (.int x2), some (.int x3), some (.int x4), some (.int x5), some (.int x6), q7, q8] [] am_C0 h o g Q T := by
  refine xo_1 rfl rfl ?_
  refine xo_2 rfl rfl ?_
  refine xo_13 rfl cf_64_35 ?_
  refine xo_2 rfl rfl ?_
  refine xo_13 rfl cf_64_36 ?_
  refine cl_150 rfl hd_197 rfl ?_
  refine xo_1 rfl rfl ?_
  refine xo_1 rfl rfl ?_
  refine xo_11lt rfl (am_sp ?_ ?_ H)
  · intro hc1 H
    refine xo_0 rfl ?_
    refine xr_42 rfl rfl ?_
    refine xo_10n rfl (by decide) ?_
    refine xo_0 rfl ?_
    refine xo_41 rfl ?_
    exact H
  · intro hc1 H
    refine xo_1 rfl rfl ?_
    refine xo_1 rfl rfl ?_
    refine xo_11gt rfl (am_sp ?_ ?_ H)
    · intro hc2 H
      refine xo_0 rfl ?_
      refine xr_42 rfl rfl ?_
      refine xo_10n rfl (by decide) ?_
      refine xo_0 rfl ?_
      refine xo_41 rfl ?_
      exact H
    · intro hc2 H
      refine xo_0 rfl ?_
      refine xo_12 rfl ?_
      refine xr_42 rfl rfl ?_
      refine xo_10 rfl (by decide) ?_
      refine xo_2 rfl rfl ?_
      refine xo_1 rfl rfl ?_
      refine xo_1 rfl rfl ?_
      refine xo_1 rfl rfl ?_
      refine xo_0 rfl ?_
      refine xo_2 rfl rfl ?_
      refine xo_1 rfl rfl ?_
      refine xo_1 rfl rfl ?_
      refine xo_2 rfl rfl ?_
      refine xo_13r rfl cr_64_13 ?_
      refine xo_1 rfl rfl ?_
      obtain ⟨hg3, H⟩ := H
      refine xo_17 rfl ca_77 hg3 ?_
      refine cl_178_64 rfl hd_197 rfl ?_
      refine xo_1 rfl rfl ?_
      refine xo_2 rfl rfl ?_
      refine xo_13r rfl cr_64_9 ?_
      refine xo_1 rfl rfl ?_
      obtain ⟨hg4, H⟩ := H
      refine xo_17 rfl ca_73 hg4 ?_
      refine xo_1 rfl rfl ?_
      refine xo_0 rfl ?_
      refine xo_7d rfl (by decide) ?_
      refine xo_7 rfl rfl ?_
      refine xo_7 rfl rfl ?_
      refine xr_41 rfl ?_
      refine cl_179_64 rfl hd_197 rfl ?_
      exact H
theorem sm_197_110 {x1 : Int32} {x2 : Int32} {x3 : Int32} {x4 : Int32} {x5 : Int32} {x6 : Int32} {q7 : Option Value} {q8 : Option Value} {z0 : Int32} (hq7 : am_nl q7 = true) (hq8 : am_nl q8 = true) (H : (if z0 = 0 then am_X L xs d 172 0 [some (.ref 64), some (.int x1), some (.int x2), some (.int x6), some (.int (-1)), none] [] am_C0 h o g (fun w h' o' g' => am_X L xs (d + 1) 197 124 [some (.ref 64), some (.int x1), some (.int x2), some (.int x3), some (.int x4), some (.int x5), some (.int x6), q7, q8] (w.toList ++ []) am_C0 h' o' g' Q T) T else Q (some (.int 0)) h o g)) : am_X L xs (d + 1) 197 110 [some (.ref 64), some (.int x1), some (.int x2), some (.int x3), some (.int x4), some (.int x5), some (.int x6), q7, q8] [.int z0] am_C0 h o g Q T := by
  refine xo_10eq rfl (am_sp ?_ ?_ H)
  · intro hc1 H
    refine xo_2 rfl rfl ?_
    refine xo_1 rfl rfl ?_
    refine xo_1 rfl rfl ?_
    refine xo_1 rfl rfl ?_
    refine xo_0 rfl ?_
    refine cl_172_64 rfl hd_197 rfl ?_
    exact H
  · intro hc1 H
    refine xo_0 rfl ?_
    refine xo_41 rfl ?_
    exact H
theorem sm_197_124 {x1 : Int32} {x2 : Int32} {x3 : Int32} {x4 : Int32} {x5 : Int32} {x6 : Int32} {q7 : Option Value} {q8 : Option Value} (hq7 : am_nl q7 = true) (hq8 : am_nl q8 = true) (H : (am_ix x2 5 ∧ am_X L xs d 177 0 [some (.ref 64), some (.int x2), some (.int x3), some (.int x4), some (.int 0), some (.int (h 77 x2.toNatClampNeg))] [] am_C0 h o g (fun w h' o' g' => am_X L xs (d + 1) 197 139 [some (.ref 64), some (.int x1), some (.int x2), some (.int x3), some (.int x4), some (.int x5), some (.int x6), q7, q8] (w.toList ++ []) am_C0 h' o' g' Q T) T)) : am_X L xs (d + 1) 197 124 [some (.ref 64), some (.int x1), some (.int x2), some (.int x3), some (.int x4), some (.int x5), some (.int x6), q7, q8] [] am_C0 h o g Q T := by
  refine xo_2 rfl rfl ?_
  refine xo_1 rfl rfl ?_
  refine xo_1 rfl rfl ?_
  refine xo_1 rfl rfl ?_
  refine xo_0 rfl ?_
  refine xo_2 rfl rfl ?_
  refine xo_13r rfl cr_64_13 ?_
  refine xo_1 rfl rfl ?_
  obtain ⟨hg1, H⟩ := H
  refine xo_17 rfl ca_77 hg1 ?_
  refine cl_177_64 rfl hd_197 rfl ?_
  exact H
theorem sm_197_139 {x1 : Int32} {x2 : Int32} {x3 : Int32} {x4 : Int32} {x5 : Int32} {x6 : Int32} {q7 : Option Value} {q8 : Option Value} {z0 : Int32} (hq7 : am_nl q7 = true) (hq8 : am_nl q8 = true) (H : (if z0 = 0 then Q (some (.int 1)) h o g else am_X L xs d 197 150 [some (.ref 64), some (.int x1), some (.int x2), some (.int x3), some (.int x4), some (.int x5), some (.int x6), some (.int (-1)), some (.int 0)] [] am_C0 h o g Q T)) : am_X L xs d 197 139 [some (.ref 64), some (.int x1), some (.int x2), some (.int x3), some (.int x4), some (.int x5), some (.int x6), q7, q8] [.int z0] am_C0 h o g Q T := by
  refine xo_10ne rfl (am_sp ?_ ?_ H)
  · intro hc1 H
    refine xo_0 rfl ?_
    refine xo_41 rfl ?_
    exact H
  · intro hc1 H
    refine xo_0 rfl ?_
    refine xo_4 (lv' := [some (.ref 64), some (.int x1), some (.int x2), some (.int x3), some (.int x4), some (.int x5), some (.int x6), some (.int (-1)), q8]) rfl rfl rfl ?_
    refine xo_0 rfl ?_
    refine xo_4 (lv' := [some (.ref 64), some (.int x1), some (.int x2), some (.int x3), some (.int x4), some (.int x5), some (.int x6), some (.int (-1)), some (.int 0)]) rfl rfl rfl ?_
    exact H
theorem sm_197_150 {x1 : Int32} {x2 : Int32} {x3 : Int32} {x4 : Int32} {x5 : Int32} {x6 : Int32} {x7 : Int32} {x8 : Int32} (H : (if x8 < x6 then (am_ix x8 80 ∧ (if (h 83 x8.toNatClampNeg) = x1 then (if (h 84 x8.toNatClampNeg) = x2 then (if x5 < (h 85 x8.toNatClampNeg) then (if (h 87 x8.toNatClampNeg) = 0 then am_X L xs (d + 1) 197 150 [some (.ref 64), some (.int x1), some (.int x2), some (.int x3), some (.int x4), some (.int x5), some (.int x6), some (.int x7), some (.int (x8 + 1))] [] am_C0 h o g Q T else am_X L xs d 172 0 [some (.ref 64), some (.int x1), some (.int x2), some (.int x6), some (.int x8), none] [] am_C0 h o g (fun w h' o' g' => am_X L xs (d + 1) 197 203 [some (.ref 64), some (.int x1), some (.int x2), some (.int x3), some (.int x4), some (.int x5), some (.int x6), some (.int x7), some (.int x8)] (w.toList ++ []) am_C0 h' o' g' Q T) T) else (if (h 87 x8.toNatClampNeg) = 1 then am_X L xs (d + 1) 197 150 [some (.ref 64), some (.int x1), some (.int x2), some (.int x3), some (.int x4), some (.int x5), some (.int x6), some (.int x7), some (.int (x8 + 1))] [] am_C0 h o g Q T else am_X L xs d 172 0 [some (.ref 64), some (.int x1), some (.int x2), some (.int x6), some (.int x8), none] [] am_C0 h o g (fun w h' o' g' => am_X L xs (d + 1) 197 203 [some (.ref 64), some (.int x1), some (.int x2), some (.int x3), some (.int x4), some (.int x5), some (.int x6), some (.int x7), some (.int x8)] (w.toList ++ []) am_C0 h' o' g' Q T) T)) else am_X L xs (d + 1) 197 150 [some (.ref 64), some (.int x1), some (.int x2), some (.int x3), some (.int x4), some (.int x5), some (.int x6), some (.int x7), some (.int (x8 + 1))] [] am_C0 h o g Q T) else am_X L xs (d + 1) 197 150 [some (.ref 64), some (.int x1), some (.int x2), some (.int x3), some (.int x4), some (.int x5), some (.int x6), some (.int x7), some (.int (x8 + 1))] [] am_C0 h o g Q T)) else (if x7 = (-1) then Q (some (.int 2)) h o g else Q (some (.int (10 + x7))) h o g))) : am_X L xs (d + 1) 197 150 [some (.ref 64), some (.int x1), some (.int x2), some (.int x3), some (.int x4), some (.int x5), some (.int x6), some (.int x7), some (.int x8)] [] am_C0 h o g Q T := by
  refine xo_1 rfl rfl ?_
  refine xo_1 rfl rfl ?_
  refine xo_11ge rfl (am_sp ?_ ?_ H)
  · intro hc1 H
    refine xo_2 rfl rfl ?_
    refine xo_13r rfl cr_64_30 ?_
    refine xo_1 rfl rfl ?_
    obtain ⟨hg2, H⟩ := H
    refine xo_17 rfl ca_83 hg2 ?_
    refine xo_1 rfl rfl ?_
    refine xo_11ne rfl (am_sp ?_ ?_ H)
    · intro hc3 H
      refine xo_2 rfl rfl ?_
      refine xo_13r rfl cr_64_31 ?_
      refine xo_1 rfl rfl ?_
      refine xo_17 rfl ca_84 hg2 ?_
      refine xo_1 rfl rfl ?_
      refine xo_11ne rfl (am_sp ?_ ?_ H)
      · intro hc4 H
        refine xo_2 rfl rfl ?_
        refine xo_1 rfl rfl ?_
        refine xo_1 rfl rfl ?_
        refine cl_198_64 rfl hd_197 rfl ?_
        refine xo_2 rfl rfl ?_
        refine xo_13r rfl cr_64_34 ?_
        refine xo_1 rfl rfl ?_
        refine xo_18b rfl ca_87 hg2 ?_
        refine xo_1 rfl rfl ?_
        refine xo_2 rfl rfl ?_
        refine xo_13r rfl cr_64_32 ?_
        refine xo_1 rfl rfl ?_
        refine xo_17 rfl ca_85 hg2 ?_
        refine xo_11lt rfl (am_sp ?_ ?_ H)
        · intro hc5 H
          refine xo_0 rfl ?_
          refine xo_11eq rfl (am_sp ?_ ?_ H)
          · intro hc6 H
            refine xo_0 rfl ?_
            refine xr_42 rfl rfl ?_
            refine xo_10n rfl (by decide) ?_
            refine xo_12 rfl ?_
            refine xo_9 (z := (x8 + 1)) (lv' := [some (.ref 64), some (.int x1), some (.int x2), some (.int x3), some (.int x4), some (.int x5), some (.int x6), some (.int x7), some (.int (x8 + 1))]) rfl rfl rfl rfl rfl ?_
            refine xo_12 rfl ?_
            exact H
          · intro hc6 H
            refine xo_0 rfl ?_
            refine xo_12 rfl ?_
            refine xr_42 rfl rfl ?_
            refine xo_10 rfl (by decide) ?_
            refine xo_2 rfl rfl ?_
            refine xo_1 rfl rfl ?_
            refine xo_1 rfl rfl ?_
            refine xo_1 rfl rfl ?_
            refine xo_1 rfl rfl ?_
            refine cl_172_64 rfl hd_197 rfl ?_
            exact H
        · intro hc5 H
          refine xo_0 rfl ?_
          refine xo_12 rfl ?_
          refine xo_11eq rfl (am_sp ?_ ?_ H)
          · intro hc7 H
            refine xo_0 rfl ?_
            refine xr_42 rfl rfl ?_
            refine xo_10n rfl (by decide) ?_
            refine xo_12 rfl ?_
            refine xo_9 (z := (x8 + 1)) (lv' := [some (.ref 64), some (.int x1), some (.int x2), some (.int x3), some (.int x4), some (.int x5), some (.int x6), some (.int x7), some (.int (x8 + 1))]) rfl rfl rfl rfl rfl ?_
            refine xo_12 rfl ?_
            exact H
          · intro hc7 H
            refine xo_0 rfl ?_
            refine xo_12 rfl ?_
            refine xr_42 rfl rfl ?_
            refine xo_10 rfl (by decide) ?_
            refine xo_2 rfl rfl ?_
            refine xo_1 rfl rfl ?_
            refine xo_1 rfl rfl ?_
            refine xo_1 rfl rfl ?_
            refine xo_1 rfl rfl ?_
            refine cl_172_64 rfl hd_197 rfl ?_
            exact H
      · intro hc4 H
        refine xo_9 (z := (x8 + 1)) (lv' := [some (.ref 64), some (.int x1), some (.int x2), some (.int x3), some (.int x4), some (.int x5), some (.int x6), some (.int x7), some (.int (x8 + 1))]) rfl rfl rfl rfl rfl ?_
        refine xo_12 rfl ?_
        exact H
    · intro hc3 H
      refine xo_9 (z := (x8 + 1)) (lv' := [some (.ref 64), some (.int x1), some (.int x2), some (.int x3), some (.int x4), some (.int x5), some (.int x6), some (.int x7), some (.int (x8 + 1))]) rfl rfl rfl rfl rfl ?_
      refine xo_12 rfl ?_
      exact H
  · intro hc1 H
    refine xo_1 rfl rfl ?_
    refine xo_0 rfl ?_
    refine xo_11ne rfl (am_sp ?_ ?_ H)
    · intro hc8 H
      refine xo_0 rfl ?_
      refine xo_12 rfl ?_
      refine xo_41 rfl ?_
      exact H
    · intro hc8 H
      refine xo_0 rfl ?_
      refine xo_1 rfl rfl ?_
      refine xo_7 rfl rfl ?_
      refine xo_41 rfl ?_
      exact H
theorem sm_197_203 {x1 : Int32} {x2 : Int32} {x3 : Int32} {x4 : Int32} {x5 : Int32} {x6 : Int32} {x7 : Int32} {x8 : Int32} (H : (am_ix x2 5 ∧ am_X L xs d 177 0 [some (.ref 64), some (.int x2), some (.int x3), some (.int x4), some (.int 0), some (.int (h 77 x2.toNatClampNeg))] [] am_C0 h o g (fun w h' o' g' => am_X L xs (d + 1) 197 218 [some (.ref 64), some (.int x1), some (.int x2), some (.int x3), some (.int x4), some (.int x5), some (.int x6), some (.int x7), some (.int x8)] (w.toList ++ []) am_C0 h' o' g' Q T) T)) : am_X L xs (d + 1) 197 203 [some (.ref 64), some (.int x1), some (.int x2), some (.int x3), some (.int x4), some (.int x5), some (.int x6), some (.int x7), some (.int x8)] [] am_C0 h o g Q T := by
  refine xo_2 rfl rfl ?_
  refine xo_1 rfl rfl ?_
  refine xo_1 rfl rfl ?_
  refine xo_1 rfl rfl ?_
  refine xo_0 rfl ?_
  refine xo_2 rfl rfl ?_
  refine xo_13r rfl cr_64_13 ?_
  refine xo_1 rfl rfl ?_
  obtain ⟨hg1, H⟩ := H
  refine xo_17 rfl ca_77 hg1 ?_
  refine cl_177_64 rfl hd_197 rfl ?_
  exact H
theorem sm_197_218 {x1 : Int32} {x2 : Int32} {x3 : Int32} {x4 : Int32} {x5 : Int32} {x6 : Int32} {x7 : Int32} {x8 : Int32} {z0 : Int32} (H : (if z0 = 0 then (if x7 = (-1) then (am_ix x8 80 ∧ am_X L xs d 197 150 [some (.ref 64), some (.int x1), some (.int x2), some (.int x3), some (.int x4), some (.int x5), some (.int x6), some (.int (h 82 x8.toNatClampNeg)), some (.int (x8 + 1))] [] am_C0 h o g Q T) else (am_ix x8 80 ∧ (if (h 82 x8.toNatClampNeg) < x7 then am_X L xs d 197 150 [some (.ref 64), some (.int x1), some (.int x2), some (.int x3), some (.int x4), some (.int x5), some (.int x6), some (.int (h 82 x8.toNatClampNeg)), some (.int (x8 + 1))] [] am_C0 h o g Q T else am_X L xs d 197 150 [some (.ref 64), some (.int x1), some (.int x2), some (.int x3), some (.int x4), some (.int x5), some (.int x6), some (.int x7), some (.int (x8 + 1))] [] am_C0 h o g Q T))) else am_X L xs d 197 150 [some (.ref 64), some (.int x1), some (.int x2), some (.int x3), some (.int x4), some (.int x5), some (.int x6), some (.int x7), some (.int (x8 + 1))] [] am_C0 h o g Q T)) : am_X L xs d 197 218 [some (.ref 64), some (.int x1), some (.int x2), some (.int x3), some (.int x4), some (.int x5), some (.int x6), some (.int x7), some (.int x8)] [.int z0] am_C0 h o g Q T := by
  refine xo_10ne rfl (am_sp ?_ ?_ H)
  · intro hc1 H
    refine xo_1 rfl rfl ?_
    refine xo_0 rfl ?_
    refine xo_11eq rfl (am_sp ?_ ?_ H)
    · intro hc2 H
      refine xo_2 rfl rfl ?_
      refine xo_13r rfl cr_64_29 ?_
      refine xo_1 rfl rfl ?_
      obtain ⟨hg3, H⟩ := H
      refine xo_17 rfl ca_82 hg3 ?_
      refine xo_4 (lv' := [some (.ref 64), some (.int x1), some (.int x2), some (.int x3), some (.int x4), some (.int x5), some (.int x6), some (.int (h 82 x8.toNatClampNeg)), some (.int x8)]) rfl rfl rfl ?_
      refine xo_9 (z := (x8 + 1)) (lv' := [some (.ref 64), some (.int x1), some (.int x2), some (.int x3), some (.int x4), some (.int x5), some (.int x6), some (.int (h 82 x8.toNatClampNeg)), some (.int (x8 + 1))]) rfl rfl rfl rfl rfl ?_
      refine xo_12 rfl ?_
      exact H
    · intro hc2 H
      refine xo_2 rfl rfl ?_
      refine xo_13r rfl cr_64_29 ?_
      refine xo_1 rfl rfl ?_
      obtain ⟨hg4, H⟩ := H
      refine xo_17 rfl ca_82 hg4 ?_
      refine xo_1 rfl rfl ?_
      refine xo_11ge rfl (am_sp ?_ ?_ H)
      · intro hc5 H
        refine xo_2 rfl rfl ?_
        refine xo_13r rfl cr_64_29 ?_
        refine xo_1 rfl rfl ?_
        refine xo_17 rfl ca_82 hg4 ?_
        refine xo_4 (lv' := [some (.ref 64), some (.int x1), some (.int x2), some (.int x3), some (.int x4), some (.int x5), some (.int x6), some (.int (h 82 x8.toNatClampNeg)), some (.int x8)]) rfl rfl rfl ?_
        refine xo_9 (z := (x8 + 1)) (lv' := [some (.ref 64), some (.int x1), some (.int x2), some (.int x3), some (.int x4), some (.int x5), some (.int x6), some (.int (h 82 x8.toNatClampNeg)), some (.int (x8 + 1))]) rfl rfl rfl rfl rfl ?_
        refine xo_12 rfl ?_
        exact H
      · intro hc5 H
        refine xo_9 (z := (x8 + 1)) (lv' := [some (.ref 64), some (.int x1), some (.int x2), some (.int x3), some (.int x4), some (.int x5), some (.int x6), some (.int x7), some (.int (x8 + 1))]) rfl rfl rfl rfl rfl ?_
        refine xo_12 rfl ?_
        exact H
  · intro hc1 H
    refine xo_9 (z := (x8 + 1)) (lv' := [some (.ref 64), some (.int x1), some (.int x2), some (.int x3), some (.int x4), some (.int x5), some (.int x6), some (.int x7), some (.int (x8 + 1))]) rfl rfl rfl rfl rfl ?_
    refine xo_12 rfl ?_
    exact H
theorem sm_199 {x1 : Int32} {x2 : Int32} {x3 : Int32} (H : (if x1 < 0 then Q (some (.int 0)) (am_set (am_set h 64 3 0) 64 3 1) o g else (if ((h 68 0) - 1) < x1 then Q (some (.int 0)) (am_set (am_set h 64 3 0) 64 3 1) o g else (if x2 < 0 then Q (some (.int 0)) (am_set (am_set h 64 3 0) 78 2 ((h 78 2) + 1)) o g else (if 60 < x3 then Q (some (.int 0)) (am_set (am_set h 64 3 0) 78 2 ((h 78 2) + 1)) o g else (if x3 < x2 then Q (some (.int 0)) (am_set (am_set h 64 3 0) 78 2 ((h 78 2) + 1)) o g else (am_ix x1 5 ∧ Q (some (.int 1)) (am_set (am_set (am_set h 64 3 0) 79 x1.toNatClampNeg x2) 80 x1.toNatClampNeg x3) o g))))))) : am_X L xs (d + 2) 199 0 [some (.ref 64), some (.int x1), some (.int x2), some (.int x3)] [] am_C0 h o g Q T := by
  refine xo_2 rfl rfl ?_
  refine xo_0 rfl ?_
  refine xo_14 rfl cf_64_3 ?_
  refine xo_2 rfl rfl ?_
  refine xo_1 rfl rfl ?_
  refine cl_152_64 rfl hd_199 rfl ?_
  refine xo_1 rfl rfl ?_
  refine xo_0 rfl ?_
  refine xo_2 rfl rfl ?_
  refine xo_13r rfl cr_64_4 ?_
  refine xo_0 rfl ?_
  refine xo_17 rfl ca_68 (am_ix.lit rfl) ?_
  refine xo_0 rfl ?_
  refine xo_7 rfl rfl ?_
  refine cl_150 rfl hd_152 rfl ?_
  refine xo_1 rfl rfl ?_
  refine xo_1 rfl rfl ?_
  refine xo_11lt rfl (am_sp ?_ ?_ H)
  · intro hc1 H
    refine xo_0 rfl ?_
    refine xr_42 rfl rfl ?_
    refine xr_42 rfl rfl ?_
    refine xo_10n rfl (by decide) ?_
    refine xo_2 rfl rfl ?_
    refine xo_0 rfl ?_
    refine xo_14 rfl cf_64_3 ?_
    refine xo_0 rfl ?_
    refine xo_42 rfl rfl ?_
    exact H
  · intro hc1 H
    refine xo_1 rfl rfl ?_
    refine xo_1 rfl rfl ?_
    refine xo_11gt rfl (am_sp ?_ ?_ H)
    · intro hc2 H
      refine xo_0 rfl ?_
      refine xr_42 rfl rfl ?_
      refine xr_42 rfl rfl ?_
      refine xo_10n rfl (by decide) ?_
      refine xo_2 rfl rfl ?_
      refine xo_0 rfl ?_
      refine xo_14 rfl cf_64_3 ?_
      refine xo_0 rfl ?_
      refine xo_42 rfl rfl ?_
      exact H
    · intro hc2 H
      refine xo_0 rfl ?_
      refine xo_12 rfl ?_
      refine xr_42 rfl rfl ?_
      refine xr_42 rfl rfl ?_
      refine xo_10 rfl (by decide) ?_
      refine xo_1 rfl rfl ?_
      refine xo_10lt rfl (am_sp ?_ ?_ H)
      · intro hc3 H
        refine xo_2 rfl rfl ?_
        refine xo_13r rfl cr_64_14 ?_
        refine xo_0 rfl ?_
        refine xo_29 rfl ⟨rfl, rfl⟩ ?_
        refine xo_17 rfl ca_78 (am_ix.lit rfl) ?_
        refine xo_0 rfl ?_
        refine xo_7 rfl rfl ?_
        refine xo_22 rfl ca_78 (am_ix.lit rfl) ?_
        refine xo_0 rfl ?_
        refine xo_42 rfl rfl ?_
        exact H
      · intro hc3 H
        refine xo_1 rfl rfl ?_
        refine xo_0 rfl ?_
        refine xo_11gt rfl (am_sp ?_ ?_ H)
        · intro hc4 H
          refine xo_2 rfl rfl ?_
          refine xo_13r rfl cr_64_14 ?_
          refine xo_0 rfl ?_
          refine xo_29 rfl ⟨rfl, rfl⟩ ?_
          refine xo_17 rfl ca_78 (am_ix.lit rfl) ?_
          refine xo_0 rfl ?_
          refine xo_7 rfl rfl ?_
          refine xo_22 rfl ca_78 (am_ix.lit rfl) ?_
          refine xo_0 rfl ?_
          refine xo_42 rfl rfl ?_
          exact H
        · intro hc4 H
          refine xo_1 rfl rfl ?_
          refine xo_1 rfl rfl ?_
          refine xo_11le rfl (am_sp ?_ ?_ H)
          · intro hc5 H
            refine xo_2 rfl rfl ?_
            refine xo_13r rfl cr_64_14 ?_
            refine xo_0 rfl ?_
            refine xo_29 rfl ⟨rfl, rfl⟩ ?_
            refine xo_17 rfl ca_78 (am_ix.lit rfl) ?_
            refine xo_0 rfl ?_
            refine xo_7 rfl rfl ?_
            refine xo_22 rfl ca_78 (am_ix.lit rfl) ?_
            refine xo_0 rfl ?_
            refine xo_42 rfl rfl ?_
            exact H
          · intro hc5 H
            refine xo_2 rfl rfl ?_
            refine xo_13r rfl cr_64_15 ?_
            refine xo_1 rfl rfl ?_
            refine xo_1 rfl rfl ?_
            obtain ⟨hg6, H⟩ := H
            refine xo_22 rfl ca_79 hg6 ?_
            refine xo_2 rfl rfl ?_
            refine xo_13r rfl cr_64_16 ?_
            refine xo_1 rfl rfl ?_
            refine xo_1 rfl rfl ?_
            refine xo_22 rfl ca_80 hg6 ?_
            refine xo_0 rfl ?_
            refine xo_42 rfl rfl ?_
            exact H
theorem sm_200 {x1 : Int32} (H : (if x1 = (-1) then am_X L xs (d + 2) 200 26 [some (.ref 64), some (.int x1), some (.int 0)] [] am_C0 (am_set h 64 3 0) o g Q T else (if x1 < 0 then Q (some (.int 0)) (am_set (am_set h 64 3 0) 64 3 1) o g else (if ((h 68 0) - 1) < x1 then Q (some (.int 0)) (am_set (am_set h 64 3 0) 64 3 1) o g else am_X L xs (d + 2) 200 26 [some (.ref 64), some (.int x1), some (.int 0)] [] am_C0 (am_set h 64 3 0) o g Q T)))) : am_X L xs (d + 2) 200 0 [some (.ref 64), some (.int x1), none] [] am_C0 h o g Q T := by
  refine xo_2 rfl rfl ?_
  refine xo_0 rfl ?_
  refine xo_14 rfl cf_64_3 ?_
  refine xo_1 rfl rfl ?_
  refine xo_0 rfl ?_
  refine xo_11eq rfl (am_sp ?_ ?_ H)
  · intro hc1 H
    refine xo_0 rfl ?_
    refine xo_4 (lv' := [some (.ref 64), some (.int x1), some (.int 0)]) rfl rfl rfl ?_
    exact H
  · intro hc1 H
    refine xo_2 rfl rfl ?_
    refine xo_1 rfl rfl ?_
    refine cl_152_64 rfl hd_200 rfl ?_
    refine xo_1 rfl rfl ?_
    refine xo_0 rfl ?_
    refine xo_2 rfl rfl ?_
    refine xo_13r rfl cr_64_4 ?_
    refine xo_0 rfl ?_
    refine xo_17 rfl ca_68 (am_ix.lit rfl) ?_
    refine xo_0 rfl ?_
    refine xo_7 rfl rfl ?_
    refine cl_150 rfl hd_152 rfl ?_
    refine xo_1 rfl rfl ?_
    refine xo_1 rfl rfl ?_
    refine xo_11lt rfl (am_sp ?_ ?_ H)
    · intro hc2 H
      refine xo_0 rfl ?_
      refine xr_42 rfl rfl ?_
      refine xr_42 rfl rfl ?_
      refine xo_10n rfl (by decide) ?_
      refine xo_2 rfl rfl ?_
      refine xo_0 rfl ?_
      refine cl_133_64 rfl hd_200 rfl ?_
      refine xo_2 rfl rfl ?_
      refine xo_1 rfl rfl ?_
      refine xo_14 rfl cf_64_3 ?_
      refine xo_0 rfl ?_
      refine xr_41 rfl ?_
      refine xo_41 rfl ?_
      exact H
    · intro hc2 H
      refine xo_1 rfl rfl ?_
      refine xo_1 rfl rfl ?_
      refine xo_11gt rfl (am_sp ?_ ?_ H)
      · intro hc3 H
        refine xo_0 rfl ?_
        refine xr_42 rfl rfl ?_
        refine xr_42 rfl rfl ?_
        refine xo_10n rfl (by decide) ?_
        refine xo_2 rfl rfl ?_
        refine xo_0 rfl ?_
        refine cl_133_64 rfl hd_200 rfl ?_
        refine xo_2 rfl rfl ?_
        refine xo_1 rfl rfl ?_
        refine xo_14 rfl cf_64_3 ?_
        refine xo_0 rfl ?_
        refine xr_41 rfl ?_
        refine xo_41 rfl ?_
        exact H
      · intro hc3 H
        refine xo_0 rfl ?_
        refine xo_12 rfl ?_
        refine xr_42 rfl rfl ?_
        refine xr_42 rfl rfl ?_
        refine xo_10 rfl (by decide) ?_
        refine xo_0 rfl ?_
        refine xo_4 (lv' := [some (.ref 64), some (.int x1), some (.int 0)]) rfl rfl rfl ?_
        exact H
theorem sm_200_26 {x1 : Int32} {x2 : Int32} (H : (if x2 < (h 68 0) then am_X L xs d 153 0 [some (.ref 64), some (.int x2), none] [] am_C0 h o g (fun w h' o' g' => am_X L xs (d + 1) 200 41 [some (.ref 64), some (.int x1), some (.int x2)] (w.toList ++ []) am_C0 h' o' g' Q T) T else am_X L xs d 201 0 [some (.ref 64), some (.int 0), some (.int 0), some (.int x1), none] [] am_C0 (am_set (am_set h 64 49 0) 64 50 0) o g (fun w h' o' g' => am_X L xs (d + 1) 200 84 [some (.ref 64), some (.int x1), some (.int x2)] (w.toList ++ []) am_C0 h' o' g' Q T) T)) : am_X L xs (d + 1) 200 26 [some (.ref 64), some (.int x1), some (.int x2)] [] am_C0 h o g Q T := by
  refine xo_1 rfl rfl ?_
  refine xo_2 rfl rfl ?_
  refine xo_13r rfl cr_64_4 ?_
  refine xo_0 rfl ?_
  refine xo_17 rfl ca_68 (am_ix.lit rfl) ?_
  refine xo_11ge rfl (am_sp ?_ ?_ H)
  · intro hc1 H
    refine xo_2 rfl rfl ?_
    refine xo_1 rfl rfl ?_
    refine cl_153_64 rfl hd_200 rfl ?_
    exact H
  · intro hc1 H
    refine xo_2 rfl rfl ?_
    refine xo_0 rfl ?_
    refine xo_14 rfl cf_64_49 ?_
    refine xo_2 rfl rfl ?_
    refine xo_0 rfl ?_
    refine xo_14 rfl cf_64_50 ?_
    refine xo_2 rfl rfl ?_
    refine xo_0 rfl ?_
    refine xo_0 rfl ?_
    refine xo_1 rfl rfl ?_
    refine cl_201_64 rfl hd_200 rfl ?_
    exact H
theorem sm_200_41 {x1 : Int32} {x2 : Int32} (H : (am_ix x2 5 ∧ am_X L xs d 200 26 [some (.ref 64), some (.int x1), some (.int (x2 + 1))] [] am_C0 (am_set (am_set h 95 x2.toNatClampNeg (h 64 35)) 96 x2.toNatClampNeg (h 64 36)) o g Q T)) : am_X L xs d 200 41 [some (.ref 64), some (.int x1), some (.int x2)] [] am_C0 h o g Q T := by
  refine xo_2 rfl rfl ?_
  refine xo_13r rfl cr_64_46 ?_
  refine xo_1 rfl rfl ?_
  refine xo_2 rfl rfl ?_
  refine xo_13 rfl cf_64_35 ?_
  obtain ⟨hg1, H⟩ := H
  refine xo_22 rfl ca_95 hg1 ?_
  refine xo_2 rfl rfl ?_
  refine xo_13r rfl cr_64_47 ?_
  refine xo_1 rfl rfl ?_
  refine xo_2 rfl rfl ?_
  refine xo_13 rfl cf_64_36 ?_
  refine xo_22 rfl ca_96 hg1 ?_
  refine xo_9 (z := (x2 + 1)) (lv' := [some (.ref 64), some (.int x1), some (.int (x2 + 1))]) rfl rfl rfl rfl rfl ?_
  refine xo_12 rfl ?_
  exact H
theorem sm_200_84 {x1 : Int32} {q2 : Option Value} (hq2 : am_nl q2 = true) (H : (if x1 = (-1) then Q (some (.int (h 64 49))) h o g else Q (some (.int (h 64 50))) h o g)) : am_X L xs d 200 84 [some (.ref 64), some (.int x1), q2] [] am_C0 h o g Q T := by
  refine xo_1 rfl rfl ?_
  refine xo_0 rfl ?_
  refine xo_11ne rfl (am_sp ?_ ?_ H)
  · intro hc1 H
    refine xo_2 rfl rfl ?_
    refine xo_13 rfl cf_64_49 ?_
    refine xo_12 rfl ?_
    refine xo_41 rfl ?_
    exact H
  · intro hc1 H
    refine xo_2 rfl rfl ?_
    refine xo_13 rfl cf_64_50 ?_
    refine xo_41 rfl ?_
    exact H
theorem sm_201 {x1 : Int32} {x2 : Int32} {x3 : Int32} (H : (if x1 = (h 68 0) then (if x3 = (-1) then Q none (am_set h 64 49 ((h 64 49) + 1)) o g else (am_ix x3 5 ∧ Q none (am_set (am_set h 64 49 ((h 64 49) + 1)) 64 50 ((h 64 50) ||| (1 <<< ((h 97 x3.toNatClampNeg) &&& 31)))) o g)) else am_X L xs d 201 46 [some (.ref 64), some (.int x1), some (.int x2), some (.int x3), some (.int 0)] [] am_C0 h o g Q T)) : am_X L xs d 201 0 [some (.ref 64), some (.int x1), some (.int x2), some (.int x3), none] [] am_C0 h o g Q T := by
  refine xo_1 rfl rfl ?_
  refine xo_2 rfl rfl ?_
  refine xo_13r rfl cr_64_4 ?_
  refine xo_0 rfl ?_
  refine xo_17 rfl ca_68 (am_ix.lit rfl) ?_
  refine xo_11ne rfl (am_sp ?_ ?_ H)
  · intro hc1 H
    refine xo_2 rfl rfl ?_
    refine xo_28 rfl rfl ?_
    refine xo_13 rfl cf_64_49 ?_
    refine xo_0 rfl ?_
    refine xo_7 rfl rfl ?_
    refine xo_14 rfl cf_64_49 ?_
    refine xo_1 rfl rfl ?_
    refine xo_0 rfl ?_
    refine xo_11eq rfl (am_sp ?_ ?_ H)
    · intro hc2 H
      refine xo_44 rfl ?_
      exact H
    · intro hc2 H
      refine xo_2 rfl rfl ?_
      refine xo_28 rfl rfl ?_
      refine xo_13 rfl cf_64_50 ?_
      refine xo_0 rfl ?_
      refine xo_2 rfl rfl ?_
      refine xo_13r rfl cr_64_48 ?_
      refine xo_1 rfl rfl ?_
      obtain ⟨hg3, H⟩ := H
      refine xo_17 rfl ca_97 hg3 ?_
      refine xo_7 rfl rfl ?_
      refine xo_7 rfl rfl ?_
      refine xo_14 rfl cf_64_50 ?_
      refine xo_44 rfl ?_
      exact H
  · intro hc1 H
    refine xo_0 rfl ?_
    refine xo_4 (lv' := [some (.ref 64), some (.int x1), some (.int x2), some (.int x3), some (.int 0)]) rfl rfl rfl ?_
    exact H
theorem sm_201_46 {x1 : Int32} {x2 : Int32} {x3 : Int32} {x4 : Int32} (H : (if x4 < (h 68 0) then (if ((x2 >>> (x4 &&& 31)) &&& 1) = 1 then am_X L xs (d + 1) 201 46 [some (.ref 64), some (.int x1), some (.int x2), some (.int x3), some (.int (x4 + 1))] [] am_C0 h o g Q T else (am_ix x1 5 ∧ (am_ix x4 5 ∧ (if (h 96 x4.toNatClampNeg) < (h 79 x1.toNatClampNeg) then am_X L xs (d + 1) 201 46 [some (.ref 64), some (.int x1), some (.int x2), some (.int x3), some (.int (x4 + 1))] [] am_C0 h o g Q T else (if (h 80 x1.toNatClampNeg) < (h 95 x4.toNatClampNeg) then am_X L xs (d + 1) 201 46 [some (.ref 64), some (.int x1), some (.int x2), some (.int x3), some (.int (x4 + 1))] [] am_C0 h o g Q T else am_X L xs d 201 0 [some (.ref 64), some (.int (x1 + 1)), some (.int (x2 ||| (1 <<< (x4 &&& 31)))), some (.int x3), none] [] am_C0 (am_set h 97 x1.toNatClampNeg x4) o g (fun w h' o' g' => am_X L xs (d + 1) 201 124 [some (.ref 64), some (.int x1), some (.int x2), some (.int x3), some (.int x4)] (w.toList ++ []) am_C0 h' o' g' Q T) T))))) else Q none h o g)) : am_X L xs (d + 1) 201 46 [some (.ref 64), some (.int x1), some (.int x2), some (.int x3), some (.int x4)] [] am_C0 h o g Q T := by
  refine xo_1 rfl rfl ?_
  refine xo_2 rfl rfl ?_
  refine xo_13r rfl cr_64_4 ?_
  refine xo_0 rfl ?_
  refine xo_17 rfl ca_68 (am_ix.lit rfl) ?_
  refine xo_11ge rfl (am_sp ?_ ?_ H)
  · intro hc1 H
    refine xo_1 rfl rfl ?_
    refine xo_1 rfl rfl ?_
    refine xo_7 rfl rfl ?_
    refine xo_0 rfl ?_
    refine xo_7 rfl rfl ?_
    refine xo_0 rfl ?_
    refine xo_11eq rfl (am_sp ?_ ?_ H)
    · intro hc2 H
      refine xo_9 (z := (x4 + 1)) (lv' := [some (.ref 64), some (.int x1), some (.int x2), some (.int x3), some (.int (x4 + 1))]) rfl rfl rfl rfl rfl ?_
      refine xo_12 rfl ?_
      exact H
    · intro hc2 H
      refine xo_2 rfl rfl ?_
      refine xo_13r rfl cr_64_15 ?_
      refine xo_1 rfl rfl ?_
      obtain ⟨hg3, H⟩ := H
      refine xo_17 rfl ca_79 hg3 ?_
      refine xo_2 rfl rfl ?_
      refine xo_13r rfl cr_64_47 ?_
      refine xo_1 rfl rfl ?_
      obtain ⟨hg4, H⟩ := H
      refine xo_17 rfl ca_96 hg4 ?_
      refine xo_11gt rfl (am_sp ?_ ?_ H)
      · intro hc5 H
        refine xo_9 (z := (x4 + 1)) (lv' := [some (.ref 64), some (.int x1), some (.int x2), some (.int x3), some (.int (x4 + 1))]) rfl rfl rfl rfl rfl ?_
        refine xo_12 rfl ?_
        exact H
      · intro hc5 H
        refine xo_2 rfl rfl ?_
        refine xo_13r rfl cr_64_16 ?_
        refine xo_1 rfl rfl ?_
        refine xo_17 rfl ca_80 hg3 ?_
        refine xo_2 rfl rfl ?_
        refine xo_13r rfl cr_64_46 ?_
        refine xo_1 rfl rfl ?_
        refine xo_17 rfl ca_95 hg4 ?_
        refine xo_11ge rfl (am_sp ?_ ?_ H)
        · intro hc6 H
          refine xo_12 rfl ?_
          refine xo_9 (z := (x4 + 1)) (lv' := [some (.ref 64), some (.int x1), some (.int x2), some (.int x3), some (.int (x4 + 1))]) rfl rfl rfl rfl rfl ?_
          refine xo_12 rfl ?_
          exact H
        · intro hc6 H
          refine xo_2 rfl rfl ?_
          refine xo_13r rfl cr_64_48 ?_
          refine xo_1 rfl rfl ?_
          refine xo_1 rfl rfl ?_
          refine xo_22 rfl ca_97 hg3 ?_
          refine xo_2 rfl rfl ?_
          refine xo_1 rfl rfl ?_
          refine xo_0 rfl ?_
          refine xo_7 rfl rfl ?_
          refine xo_1 rfl rfl ?_
          refine xo_0 rfl ?_
          refine xo_1 rfl rfl ?_
          refine xo_7 rfl rfl ?_
          refine xo_7 rfl rfl ?_
          refine xo_1 rfl rfl ?_
          refine cl_201_64 rfl hd_201 rfl ?_
          exact H
  · intro hc1 H
    refine xo_44 rfl ?_
    exact H
theorem sm_201_124 {x1 : Int32} {x2 : Int32} {x3 : Int32} {x4 : Int32} (H : am_X L xs d 201 46 [some (.ref 64), some (.int x1), some (.int x2), some (.int x3), some (.int (x4 + 1))] [] am_C0 h o g Q T) : am_X L xs d 201 124 [some (.ref 64), some (.int x1), some (.int x2), some (.int x3), some (.int x4)] [] am_C0 h o g Q T := by
  refine xo_9 (z := (x4 + 1)) (lv' := [some (.ref 64), some (.int x1), some (.int x2), some (.int x3), some (.int (x4 + 1))]) rfl rfl rfl rfl rfl ?_
  refine xo_12 rfl ?_
  exact H
theorem sm_202 (H : am_X L xs d 203 0 [some (.ref 98), some (.ref 82), none] [] am_C0 (am_set (am_set (am_set h 64 3 0) 64 51 1) 64 52 (h 64 28)) o g (fun w h' o' g' => am_X L xs (d + 1) 202 29 [some (.ref 64), none] (w.toList ++ []) am_C0 h' o' g' Q T) T) : am_X L xs (d + 1) 202 0 [some (.ref 64), none] [] am_C0 h o g Q T := by
  refine xo_2 rfl rfl ?_
  refine xo_0 rfl ?_
  refine xo_14 rfl cf_64_3 ?_
  refine xo_2 rfl rfl ?_
  refine xo_0 rfl ?_
  refine xo_15 rfl cf_64_51 rfl ?_
  refine xo_2 rfl rfl ?_
  refine xo_2 rfl rfl ?_
  refine xo_13 rfl cf_64_28 ?_
  refine xo_14 rfl cf_64_52 ?_
  refine xo_2 rfl rfl ?_
  refine xo_13r rfl cr_64_53 ?_
  refine xo_2 rfl rfl ?_
  refine xo_13r rfl cr_64_29 ?_
  refine cl_203_98_82 rfl hd_202 rfl ?_
  exact H
theorem sm_202_29 {q1 : Option Value} (hq1 : am_nl q1 = true) (H : am_X L xs d 203 0 [some (.ref 99), some (.ref 83), none] [] am_C0 h o g (fun w h' o' g' => am_X L xs (d + 1) 202 40 [some (.ref 64), q1] (w.toList ++ []) am_C0 h' o' g' Q T) T) : am_X L xs (d + 1) 202 29 [some (.ref 64), q1] [] am_C0 h o g Q T := by
  refine xo_2 rfl rfl ?_
  refine xo_13r rfl cr_64_54 ?_
  refine xo_2 rfl rfl ?_
  refine xo_13r rfl cr_64_30 ?_
  refine cl_203_99_83 rfl hd_202 rfl ?_
  exact H
theorem sm_202_40 {q1 : Option Value} (hq1 : am_nl q1 = true) (H : am_X L xs d 203 0 [some (.ref 100), some (.ref 84), none] [] am_C0 h o g (fun w h' o' g' => am_X L xs (d + 1) 202 51 [some (.ref 64), q1] (w.toList ++ []) am_C0 h' o' g' Q T) T) : am_X L xs (d + 1) 202 40 [some (.ref 64), q1] [] am_C0 h o g Q T := by
  refine xo_2 rfl rfl ?_
  refine xo_13r rfl cr_64_55 ?_
  refine xo_2 rfl rfl ?_
  refine xo_13r rfl cr_64_31 ?_
  refine cl_203_100_84 rfl hd_202 rfl ?_
  exact H
theorem sm_202_51 {q1 : Option Value} (hq1 : am_nl q1 = true) (H : am_X L xs d 203 0 [some (.ref 101), some (.ref 85), none] [] am_C0 h o g (fun w h' o' g' => am_X L xs (d + 1) 202 62 [some (.ref 64), q1] (w.toList ++ []) am_C0 h' o' g' Q T) T) : am_X L xs (d + 1) 202 51 [some (.ref 64), q1] [] am_C0 h o g Q T := by
  refine xo_2 rfl rfl ?_
  refine xo_13r rfl cr_64_56 ?_
  refine xo_2 rfl rfl ?_
  refine xo_13r rfl cr_64_32 ?_
  refine cl_203_101_85 rfl hd_202 rfl ?_
  exact H
theorem sm_202_62 {q1 : Option Value} (hq1 : am_nl q1 = true) (H : am_X L xs d 203 0 [some (.ref 102), some (.ref 86), none] [] am_C0 h o g (fun w h' o' g' => am_X L xs (d + 1) 202 73 [some (.ref 64), q1] (w.toList ++ []) am_C0 h' o' g' Q T) T) : am_X L xs (d + 1) 202 62 [some (.ref 64), q1] [] am_C0 h o g Q T := by
  refine xo_2 rfl rfl ?_
  refine xo_13r rfl cr_64_57 ?_
  refine xo_2 rfl rfl ?_
  refine xo_13r rfl cr_64_33 ?_
  refine cl_203_102_86 rfl hd_202 rfl ?_
  exact H
theorem sm_202_73 {q1 : Option Value} (hq1 : am_nl q1 = true) (H : am_X L xs d 203 0 [some (.ref 103), some (.ref 77), none] [] am_C0 h o g (fun w h' o' g' => am_X L xs (d + 1) 202 84 [some (.ref 64), q1] (w.toList ++ []) am_C0 h' o' g' Q T) T) : am_X L xs (d + 1) 202 73 [some (.ref 64), q1] [] am_C0 h o g Q T := by
  refine xo_2 rfl rfl ?_
  refine xo_13r rfl cr_64_58 ?_
  refine xo_2 rfl rfl ?_
  refine xo_13r rfl cr_64_13 ?_
  refine cl_203_103_77 rfl hd_202 rfl ?_
  exact H
theorem sm_202_84 {q1 : Option Value} (hq1 : am_nl q1 = true) (H : am_X L xs d 203 0 [some (.ref 104), some (.ref 79), none] [] am_C0 h o g (fun w h' o' g' => am_X L xs (d + 1) 202 95 [some (.ref 64), q1] (w.toList ++ []) am_C0 h' o' g' Q T) T) : am_X L xs (d + 1) 202 84 [some (.ref 64), q1] [] am_C0 h o g Q T := by
  refine xo_2 rfl rfl ?_
  refine xo_13r rfl cr_64_59 ?_
  refine xo_2 rfl rfl ?_
  refine xo_13r rfl cr_64_15 ?_
  refine cl_203_104_79 rfl hd_202 rfl ?_
  exact H
theorem sm_202_95 {q1 : Option Value} (hq1 : am_nl q1 = true) (H : am_X L xs d 203 0 [some (.ref 105), some (.ref 80), none] [] am_C0 h o g (fun w h' o' g' => am_X L xs (d + 1) 202 106 [some (.ref 64), q1] (w.toList ++ []) am_C0 h' o' g' Q T) T) : am_X L xs (d + 1) 202 95 [some (.ref 64), q1] [] am_C0 h o g Q T := by
  refine xo_2 rfl rfl ?_
  refine xo_13r rfl cr_64_60 ?_
  refine xo_2 rfl rfl ?_
  refine xo_13r rfl cr_64_16 ?_
  refine cl_203_105_80 rfl hd_202 rfl ?_
  exact H
theorem sm_202_106 {q1 : Option Value} (hq1 : am_nl q1 = true) (H : am_X L xs d 203 0 [some (.ref 106), some (.ref 78), none] [] am_C0 h o g (fun w h' o' g' => am_X L xs (d + 1) 202 117 [some (.ref 64), q1] (w.toList ++ []) am_C0 h' o' g' Q T) T) : am_X L xs (d + 1) 202 106 [some (.ref 64), q1] [] am_C0 h o g Q T := by
  refine xo_2 rfl rfl ?_
  refine xo_13r rfl cr_64_61 ?_
  refine xo_2 rfl rfl ?_
  refine xo_13r rfl cr_64_14 ?_
  refine cl_203_106_78 rfl hd_202 rfl ?_
  exact H
theorem sm_202_117 {q1 : Option Value} (hq1 : am_nl q1 = true) (H : am_X L xs d 202 119 [some (.ref 64), some (.int 0)] [] am_C0 h o g Q T) : am_X L xs d 202 117 [some (.ref 64), q1] [] am_C0 h o g Q T := by
  refine xo_0 rfl ?_
  refine xo_4 (lv' := [some (.ref 64), some (.int 0)]) rfl rfl rfl ?_
  exact H
theorem sm_202_119 {x1 : Int32} (H : (if x1 < 80 then (am_ix x1 80 ∧ am_X L xs d 202 119 [some (.ref 64), some (.int (x1 + 1))] [] am_C0 (am_set h 107 x1.toNatClampNeg (vp_nar .boolean (h 87 x1.toNatClampNeg))) o g Q T) else Q none h o g)) : am_X L xs d 202 119 [some (.ref 64), some (.int x1)] [] am_C0 h o g Q T := by
  refine xo_1 rfl rfl ?_
  refine xo_0 rfl ?_
  refine xo_11ge rfl (am_sp ?_ ?_ H)
  · intro hc1 H
    refine xo_2 rfl rfl ?_
    refine xo_13r rfl cr_64_62 ?_
    refine xo_1 rfl rfl ?_
    refine xo_2 rfl rfl ?_
    refine xo_13r rfl cr_64_34 ?_
    refine xo_1 rfl rfl ?_
    obtain ⟨hg2, H⟩ := H
    refine xo_18b rfl ca_87 hg2 ?_
    refine xo_23b rfl ca_107 hg2 ?_
    refine xo_9 (z := (x1 + 1)) (lv' := [some (.ref 64), some (.int (x1 + 1))]) rfl rfl rfl rfl rfl ?_
    refine xo_12 rfl ?_
    exact H
  · intro hc1 H
    refine xo_44 rfl ?_
    exact H
theorem sm_203_100_84 (H : am_X L xs d 203 2 [some (.ref 100), some (.ref 84), some (.int 0)] [] am_C0 h o g Q T) : am_X L xs d 203 0 [some (.ref 100), some (.ref 84), none] [] am_C0 h o g Q T := by
  refine xo_0 rfl ?_
  refine xo_4 (lv' := [some (.ref 100), some (.ref 84), some (.int 0)]) rfl rfl rfl ?_
  exact H
theorem sm_203_100_84_2 {x2 : Int32} (H : (if x2 < 80 then (am_ix x2 80 ∧ am_X L xs d 203 2 [some (.ref 100), some (.ref 84), some (.int (x2 + 1))] [] am_C0 (am_set h 100 x2.toNatClampNeg (h 84 x2.toNatClampNeg)) o g Q T) else Q none h o g)) : am_X L xs d 203 2 [some (.ref 100), some (.ref 84), some (.int x2)] [] am_C0 h o g Q T := by
  refine xo_1 rfl rfl ?_
  refine xo_2 rfl rfl ?_
  refine xo_27 (z := 80) rfl ca_100 (Nat.le_of_ble_eq_true rfl) rfl ?_
  refine xo_11ge rfl (am_sp ?_ ?_ H)
  · intro hc1 H
    refine xo_2 rfl rfl ?_
    refine xo_1 rfl rfl ?_
    refine xo_2 rfl rfl ?_
    refine xo_1 rfl rfl ?_
    obtain ⟨hg2, H⟩ := H
    refine xo_17 rfl ca_84 hg2 ?_
    refine xo_22 rfl ca_100 hg2 ?_
    refine xo_9 (z := (x2 + 1)) (lv' := [some (.ref 100), some (.ref 84), some (.int (x2 + 1))]) rfl rfl rfl rfl rfl ?_
    refine xo_12 rfl ?_
    exact H
  · intro hc1 H
    refine xo_44 rfl ?_
    exact H
theorem sm_203_101_85 (H : am_X L xs d 203 2 [some (.ref 101), some (.ref 85), some (.int 0)] [] am_C0 h o g Q T) : am_X L xs d 203 0 [some (.ref 101), some (.ref 85), none] [] am_C0 h o g Q T := by
  refine xo_0 rfl ?_
  refine xo_4 (lv' := [some (.ref 101), some (.ref 85), some (.int 0)]) rfl rfl rfl ?_
  exact H
theorem sm_203_101_85_2 {x2 : Int32} (H : (if x2 < 80 then (am_ix x2 80 ∧ am_X L xs d 203 2 [some (.ref 101), some (.ref 85), some (.int (x2 + 1))] [] am_C0 (am_set h 101 x2.toNatClampNeg (h 85 x2.toNatClampNeg)) o g Q T) else Q none h o g)) : am_X L xs d 203 2 [some (.ref 101), some (.ref 85), some (.int x2)] [] am_C0 h o g Q T := by
  refine xo_1 rfl rfl ?_
  refine xo_2 rfl rfl ?_
  refine xo_27 (z := 80) rfl ca_101 (Nat.le_of_ble_eq_true rfl) rfl ?_
  refine xo_11ge rfl (am_sp ?_ ?_ H)
  · intro hc1 H
    refine xo_2 rfl rfl ?_
    refine xo_1 rfl rfl ?_
    refine xo_2 rfl rfl ?_
    refine xo_1 rfl rfl ?_
    obtain ⟨hg2, H⟩ := H
    refine xo_17 rfl ca_85 hg2 ?_
    refine xo_22 rfl ca_101 hg2 ?_
    refine xo_9 (z := (x2 + 1)) (lv' := [some (.ref 101), some (.ref 85), some (.int (x2 + 1))]) rfl rfl rfl rfl rfl ?_
    refine xo_12 rfl ?_
    exact H
  · intro hc1 H
    refine xo_44 rfl ?_
    exact H
theorem sm_203_102_86 (H : am_X L xs d 203 2 [some (.ref 102), some (.ref 86), some (.int 0)] [] am_C0 h o g Q T) : am_X L xs d 203 0 [some (.ref 102), some (.ref 86), none] [] am_C0 h o g Q T := by
  refine xo_0 rfl ?_
  refine xo_4 (lv' := [some (.ref 102), some (.ref 86), some (.int 0)]) rfl rfl rfl ?_
  exact H
theorem sm_203_102_86_2 {x2 : Int32} (H : (if x2 < 80 then (am_ix x2 80 ∧ am_X L xs d 203 2 [some (.ref 102), some (.ref 86), some (.int (x2 + 1))] [] am_C0 (am_set h 102 x2.toNatClampNeg (h 86 x2.toNatClampNeg)) o g Q T) else Q none h o g)) : am_X L xs d 203 2 [some (.ref 102), some (.ref 86), some (.int x2)] [] am_C0 h o g Q T := by
  refine xo_1 rfl rfl ?_
  refine xo_2 rfl rfl ?_
  refine xo_27 (z := 80) rfl ca_102 (Nat.le_of_ble_eq_true rfl) rfl ?_
  refine xo_11ge rfl (am_sp ?_ ?_ H)
  · intro hc1 H
    refine xo_2 rfl rfl ?_
    refine xo_1 rfl rfl ?_
    refine xo_2 rfl rfl ?_
    refine xo_1 rfl rfl ?_
    obtain ⟨hg2, H⟩ := H
    refine xo_17 rfl ca_86 hg2 ?_
    refine xo_22 rfl ca_102 hg2 ?_
    refine xo_9 (z := (x2 + 1)) (lv' := [some (.ref 102), some (.ref 86), some (.int (x2 + 1))]) rfl rfl rfl rfl rfl ?_
    refine xo_12 rfl ?_
    exact H
  · intro hc1 H
    refine xo_44 rfl ?_
    exact H
theorem sm_203_103_77 (H : am_X L xs d 203 2 [some (.ref 103), some (.ref 77), some (.int 0)] [] am_C0 h o g Q T) : am_X L xs d 203 0 [some (.ref 103), some (.ref 77), none] [] am_C0 h o g Q T := by
  refine xo_0 rfl ?_
  refine xo_4 (lv' := [some (.ref 103), some (.ref 77), some (.int 0)]) rfl rfl rfl ?_
  exact H
theorem sm_203_103_77_2 {x2 : Int32} (H : (if x2 < 5 then (am_ix x2 5 ∧ am_X L xs d 203 2 [some (.ref 103), some (.ref 77), some (.int (x2 + 1))] [] am_C0 (am_set h 103 x2.toNatClampNeg (h 77 x2.toNatClampNeg)) o g Q T) else Q none h o g)) : am_X L xs d 203 2 [some (.ref 103), some (.ref 77), some (.int x2)] [] am_C0 h o g Q T := by
  refine xo_1 rfl rfl ?_
  refine xo_2 rfl rfl ?_
  refine xo_27 (z := 5) rfl ca_103 (Nat.le_of_ble_eq_true rfl) rfl ?_
  refine xo_11ge rfl (am_sp ?_ ?_ H)
  · intro hc1 H
    refine xo_2 rfl rfl ?_
    refine xo_1 rfl rfl ?_
    refine xo_2 rfl rfl ?_
    refine xo_1 rfl rfl ?_
    obtain ⟨hg2, H⟩ := H
    refine xo_17 rfl ca_77 hg2 ?_
    refine xo_22 rfl ca_103 hg2 ?_
    refine xo_9 (z := (x2 + 1)) (lv' := [some (.ref 103), some (.ref 77), some (.int (x2 + 1))]) rfl rfl rfl rfl rfl ?_
    refine xo_12 rfl ?_
    exact H
  · intro hc1 H
    refine xo_44 rfl ?_
    exact H
theorem sm_203_104_79 (H : am_X L xs d 203 2 [some (.ref 104), some (.ref 79), some (.int 0)] [] am_C0 h o g Q T) : am_X L xs d 203 0 [some (.ref 104), some (.ref 79), none] [] am_C0 h o g Q T := by
  refine xo_0 rfl ?_
  refine xo_4 (lv' := [some (.ref 104), some (.ref 79), some (.int 0)]) rfl rfl rfl ?_
  exact H
theorem sm_203_104_79_2 {x2 : Int32} (H : (if x2 < 5 then (am_ix x2 5 ∧ am_X L xs d 203 2 [some (.ref 104), some (.ref 79), some (.int (x2 + 1))] [] am_C0 (am_set h 104 x2.toNatClampNeg (h 79 x2.toNatClampNeg)) o g Q T) else Q none h o g)) : am_X L xs d 203 2 [some (.ref 104), some (.ref 79), some (.int x2)] [] am_C0 h o g Q T := by
  refine xo_1 rfl rfl ?_
  refine xo_2 rfl rfl ?_
  refine xo_27 (z := 5) rfl ca_104 (Nat.le_of_ble_eq_true rfl) rfl ?_
  refine xo_11ge rfl (am_sp ?_ ?_ H)
  · intro hc1 H
    refine xo_2 rfl rfl ?_
    refine xo_1 rfl rfl ?_
    refine xo_2 rfl rfl ?_
    refine xo_1 rfl rfl ?_
    obtain ⟨hg2, H⟩ := H
    refine xo_17 rfl ca_79 hg2 ?_
    refine xo_22 rfl ca_104 hg2 ?_
    refine xo_9 (z := (x2 + 1)) (lv' := [some (.ref 104), some (.ref 79), some (.int (x2 + 1))]) rfl rfl rfl rfl rfl ?_
    refine xo_12 rfl ?_
    exact H
  · intro hc1 H
    refine xo_44 rfl ?_
    exact H
theorem sm_203_105_80 (H : am_X L xs d 203 2 [some (.ref 105), some (.ref 80), some (.int 0)] [] am_C0 h o g Q T) : am_X L xs d 203 0 [some (.ref 105), some (.ref 80), none] [] am_C0 h o g Q T := by
  refine xo_0 rfl ?_
  refine xo_4 (lv' := [some (.ref 105), some (.ref 80), some (.int 0)]) rfl rfl rfl ?_
  exact H
theorem sm_203_105_80_2 {x2 : Int32} (H : (if x2 < 5 then (am_ix x2 5 ∧ am_X L xs d 203 2 [some (.ref 105), some (.ref 80), some (.int (x2 + 1))] [] am_C0 (am_set h 105 x2.toNatClampNeg (h 80 x2.toNatClampNeg)) o g Q T) else Q none h o g)) : am_X L xs d 203 2 [some (.ref 105), some (.ref 80), some (.int x2)] [] am_C0 h o g Q T := by
  refine xo_1 rfl rfl ?_
  refine xo_2 rfl rfl ?_
  refine xo_27 (z := 5) rfl ca_105 (Nat.le_of_ble_eq_true rfl) rfl ?_
  refine xo_11ge rfl (am_sp ?_ ?_ H)
  · intro hc1 H
    refine xo_2 rfl rfl ?_
    refine xo_1 rfl rfl ?_
    refine xo_2 rfl rfl ?_
    refine xo_1 rfl rfl ?_
    obtain ⟨hg2, H⟩ := H
    refine xo_17 rfl ca_80 hg2 ?_
    refine xo_22 rfl ca_105 hg2 ?_
    refine xo_9 (z := (x2 + 1)) (lv' := [some (.ref 105), some (.ref 80), some (.int (x2 + 1))]) rfl rfl rfl rfl rfl ?_
    refine xo_12 rfl ?_
    exact H
  · intro hc1 H
    refine xo_44 rfl ?_
    exact H
theorem sm_203_106_78 (H : am_X L xs d 203 2 [some (.ref 106), some (.ref 78), some (.int 0)] [] am_C0 h o g Q T) : am_X L xs d 203 0 [some (.ref 106), some (.ref 78), none] [] am_C0 h o g Q T := by
  refine xo_0 rfl ?_
  refine xo_4 (lv' := [some (.ref 106), some (.ref 78), some (.int 0)]) rfl rfl rfl ?_
  exact H
theorem sm_203_106_78_2 {x2 : Int32} (H : (if x2 < 3 then (am_ix x2 3 ∧ am_X L xs d 203 2 [some (.ref 106), some (.ref 78), some (.int (x2 + 1))] [] am_C0 (am_set h 106 x2.toNatClampNeg (h 78 x2.toNatClampNeg)) o g Q T) else Q none h o g)) : am_X L xs d 203 2 [some (.ref 106), some (.ref 78), some (.int x2)] [] am_C0 h o g Q T := by
  refine xo_1 rfl rfl ?_
  refine xo_2 rfl rfl ?_
  refine xo_27 (z := 3) rfl ca_106 (Nat.le_of_ble_eq_true rfl) rfl ?_
  refine xo_11ge rfl (am_sp ?_ ?_ H)
  · intro hc1 H
    refine xo_2 rfl rfl ?_
    refine xo_1 rfl rfl ?_
    refine xo_2 rfl rfl ?_
    refine xo_1 rfl rfl ?_
    obtain ⟨hg2, H⟩ := H
    refine xo_17 rfl ca_78 hg2 ?_
    refine xo_22 rfl ca_106 hg2 ?_
    refine xo_9 (z := (x2 + 1)) (lv' := [some (.ref 106), some (.ref 78), some (.int (x2 + 1))]) rfl rfl rfl rfl rfl ?_
    refine xo_12 rfl ?_
    exact H
  · intro hc1 H
    refine xo_44 rfl ?_
    exact H
theorem sm_203_77_103 (H : am_X L xs d 203 2 [some (.ref 77), some (.ref 103), some (.int 0)] [] am_C0 h o g Q T) : am_X L xs d 203 0 [some (.ref 77), some (.ref 103), none] [] am_C0 h o g Q T := by
  refine xo_0 rfl ?_
  refine xo_4 (lv' := [some (.ref 77), some (.ref 103), some (.int 0)]) rfl rfl rfl ?_
  exact H
theorem sm_203_77_103_2 {x2 : Int32} (H : (if x2 < 5 then (am_ix x2 5 ∧ am_X L xs d 203 2 [some (.ref 77), some (.ref 103), some (.int (x2 + 1))] [] am_C0 (am_set h 77 x2.toNatClampNeg (h 103 x2.toNatClampNeg)) o g Q T) else Q none h o g)) : am_X L xs d 203 2 [some (.ref 77), some (.ref 103), some (.int x2)] [] am_C0 h o g Q T := by
  refine xo_1 rfl rfl ?_
  refine xo_2 rfl rfl ?_
  refine xo_27 (z := 5) rfl ca_77 (Nat.le_of_ble_eq_true rfl) rfl ?_
  refine xo_11ge rfl (am_sp ?_ ?_ H)
  · intro hc1 H
    refine xo_2 rfl rfl ?_
    refine xo_1 rfl rfl ?_
    refine xo_2 rfl rfl ?_
    refine xo_1 rfl rfl ?_
    obtain ⟨hg2, H⟩ := H
    refine xo_17 rfl ca_103 hg2 ?_
    refine xo_22 rfl ca_77 hg2 ?_
    refine xo_9 (z := (x2 + 1)) (lv' := [some (.ref 77), some (.ref 103), some (.int (x2 + 1))]) rfl rfl rfl rfl rfl ?_
    refine xo_12 rfl ?_
    exact H
  · intro hc1 H
    refine xo_44 rfl ?_
    exact H
theorem sm_203_78_106 (H : am_X L xs d 203 2 [some (.ref 78), some (.ref 106), some (.int 0)] [] am_C0 h o g Q T) : am_X L xs d 203 0 [some (.ref 78), some (.ref 106), none] [] am_C0 h o g Q T := by
  refine xo_0 rfl ?_
  refine xo_4 (lv' := [some (.ref 78), some (.ref 106), some (.int 0)]) rfl rfl rfl ?_
  exact H
theorem sm_203_78_106_2 {x2 : Int32} (H : (if x2 < 3 then (am_ix x2 3 ∧ am_X L xs d 203 2 [some (.ref 78), some (.ref 106), some (.int (x2 + 1))] [] am_C0 (am_set h 78 x2.toNatClampNeg (h 106 x2.toNatClampNeg)) o g Q T) else Q none h o g)) : am_X L xs d 203 2 [some (.ref 78), some (.ref 106), some (.int x2)] [] am_C0 h o g Q T := by
  refine xo_1 rfl rfl ?_
  refine xo_2 rfl rfl ?_
  refine xo_27 (z := 3) rfl ca_78 (Nat.le_of_ble_eq_true rfl) rfl ?_
  refine xo_11ge rfl (am_sp ?_ ?_ H)
  · intro hc1 H
    refine xo_2 rfl rfl ?_
    refine xo_1 rfl rfl ?_
    refine xo_2 rfl rfl ?_
    refine xo_1 rfl rfl ?_
    obtain ⟨hg2, H⟩ := H
    refine xo_17 rfl ca_106 hg2 ?_
    refine xo_22 rfl ca_78 hg2 ?_
    refine xo_9 (z := (x2 + 1)) (lv' := [some (.ref 78), some (.ref 106), some (.int (x2 + 1))]) rfl rfl rfl rfl rfl ?_
    refine xo_12 rfl ?_
    exact H
  · intro hc1 H
    refine xo_44 rfl ?_
    exact H
theorem sm_203_79_104 (H : am_X L xs d 203 2 [some (.ref 79), some (.ref 104), some (.int 0)] [] am_C0 h o g Q T) : am_X L xs d 203 0 [some (.ref 79), some (.ref 104), none] [] am_C0 h o g Q T := by
  refine xo_0 rfl ?_
  refine xo_4 (lv' := [some (.ref 79), some (.ref 104), some (.int 0)]) rfl rfl rfl ?_
  exact H
theorem sm_203_79_104_2 {x2 : Int32} (H : (if x2 < 5 then (am_ix x2 5 ∧ am_X L xs d 203 2 [some (.ref 79), some (.ref 104), some (.int (x2 + 1))] [] am_C0 (am_set h 79 x2.toNatClampNeg (h 104 x2.toNatClampNeg)) o g Q T) else Q none h o g)) : am_X L xs d 203 2 [some (.ref 79), some (.ref 104), some (.int x2)] [] am_C0 h o g Q T := by
  refine xo_1 rfl rfl ?_
  refine xo_2 rfl rfl ?_
  refine xo_27 (z := 5) rfl ca_79 (Nat.le_of_ble_eq_true rfl) rfl ?_
  refine xo_11ge rfl (am_sp ?_ ?_ H)
  · intro hc1 H
    refine xo_2 rfl rfl ?_
    refine xo_1 rfl rfl ?_
    refine xo_2 rfl rfl ?_
    refine xo_1 rfl rfl ?_
    obtain ⟨hg2, H⟩ := H
    refine xo_17 rfl ca_104 hg2 ?_
    refine xo_22 rfl ca_79 hg2 ?_
    refine xo_9 (z := (x2 + 1)) (lv' := [some (.ref 79), some (.ref 104), some (.int (x2 + 1))]) rfl rfl rfl rfl rfl ?_
    refine xo_12 rfl ?_
    exact H
  · intro hc1 H
    refine xo_44 rfl ?_
    exact H
theorem sm_203_80_105 (H : am_X L xs d 203 2 [some (.ref 80), some (.ref 105), some (.int 0)] [] am_C0 h o g Q T) : am_X L xs d 203 0 [some (.ref 80), some (.ref 105), none] [] am_C0 h o g Q T := by
  refine xo_0 rfl ?_
  refine xo_4 (lv' := [some (.ref 80), some (.ref 105), some (.int 0)]) rfl rfl rfl ?_
  exact H
theorem sm_203_80_105_2 {x2 : Int32} (H : (if x2 < 5 then (am_ix x2 5 ∧ am_X L xs d 203 2 [some (.ref 80), some (.ref 105), some (.int (x2 + 1))] [] am_C0 (am_set h 80 x2.toNatClampNeg (h 105 x2.toNatClampNeg)) o g Q T) else Q none h o g)) : am_X L xs d 203 2 [some (.ref 80), some (.ref 105), some (.int x2)] [] am_C0 h o g Q T := by
  refine xo_1 rfl rfl ?_
  refine xo_2 rfl rfl ?_
  refine xo_27 (z := 5) rfl ca_80 (Nat.le_of_ble_eq_true rfl) rfl ?_
  refine xo_11ge rfl (am_sp ?_ ?_ H)
  · intro hc1 H
    refine xo_2 rfl rfl ?_
    refine xo_1 rfl rfl ?_
    refine xo_2 rfl rfl ?_
    refine xo_1 rfl rfl ?_
    obtain ⟨hg2, H⟩ := H
    refine xo_17 rfl ca_105 hg2 ?_
    refine xo_22 rfl ca_80 hg2 ?_
    refine xo_9 (z := (x2 + 1)) (lv' := [some (.ref 80), some (.ref 105), some (.int (x2 + 1))]) rfl rfl rfl rfl rfl ?_
    refine xo_12 rfl ?_
    exact H
  · intro hc1 H
    refine xo_44 rfl ?_
    exact H
theorem sm_203_82_98 (H : am_X L xs d 203 2 [some (.ref 82), some (.ref 98), some (.int 0)] [] am_C0 h o g Q T) : am_X L xs d 203 0 [some (.ref 82), some (.ref 98), none] [] am_C0 h o g Q T := by
  refine xo_0 rfl ?_
  refine xo_4 (lv' := [some (.ref 82), some (.ref 98), some (.int 0)]) rfl rfl rfl ?_
  exact H
theorem sm_203_82_98_2 {x2 : Int32} (H : (if x2 < 80 then (am_ix x2 80 ∧ am_X L xs d 203 2 [some (.ref 82), some (.ref 98), some (.int (x2 + 1))] [] am_C0 (am_set h 82 x2.toNatClampNeg (h 98 x2.toNatClampNeg)) o g Q T) else Q none h o g)) : am_X L xs d 203 2 [some (.ref 82), some (.ref 98), some (.int x2)] [] am_C0 h o g Q T := by
  refine xo_1 rfl rfl ?_
  refine xo_2 rfl rfl ?_
  refine xo_27 (z := 80) rfl ca_82 (Nat.le_of_ble_eq_true rfl) rfl ?_
  refine xo_11ge rfl (am_sp ?_ ?_ H)
  · intro hc1 H
    refine xo_2 rfl rfl ?_
    refine xo_1 rfl rfl ?_
    refine xo_2 rfl rfl ?_
    refine xo_1 rfl rfl ?_
    obtain ⟨hg2, H⟩ := H
    refine xo_17 rfl ca_98 hg2 ?_
    refine xo_22 rfl ca_82 hg2 ?_
    refine xo_9 (z := (x2 + 1)) (lv' := [some (.ref 82), some (.ref 98), some (.int (x2 + 1))]) rfl rfl rfl rfl rfl ?_
    refine xo_12 rfl ?_
    exact H
  · intro hc1 H
    refine xo_44 rfl ?_
    exact H
theorem sm_203_83_99 (H : am_X L xs d 203 2 [some (.ref 83), some (.ref 99), some (.int 0)] [] am_C0 h o g Q T) : am_X L xs d 203 0 [some (.ref 83), some (.ref 99), none] [] am_C0 h o g Q T := by
  refine xo_0 rfl ?_
  refine xo_4 (lv' := [some (.ref 83), some (.ref 99), some (.int 0)]) rfl rfl rfl ?_
  exact H
theorem sm_203_83_99_2 {x2 : Int32} (H : (if x2 < 80 then (am_ix x2 80 ∧ am_X L xs d 203 2 [some (.ref 83), some (.ref 99), some (.int (x2 + 1))] [] am_C0 (am_set h 83 x2.toNatClampNeg (h 99 x2.toNatClampNeg)) o g Q T) else Q none h o g)) : am_X L xs d 203 2 [some (.ref 83), some (.ref 99), some (.int x2)] [] am_C0 h o g Q T := by
  refine xo_1 rfl rfl ?_
  refine xo_2 rfl rfl ?_
  refine xo_27 (z := 80) rfl ca_83 (Nat.le_of_ble_eq_true rfl) rfl ?_
  refine xo_11ge rfl (am_sp ?_ ?_ H)
  · intro hc1 H
    refine xo_2 rfl rfl ?_
    refine xo_1 rfl rfl ?_
    refine xo_2 rfl rfl ?_
    refine xo_1 rfl rfl ?_
    obtain ⟨hg2, H⟩ := H
    refine xo_17 rfl ca_99 hg2 ?_
    refine xo_22 rfl ca_83 hg2 ?_
    refine xo_9 (z := (x2 + 1)) (lv' := [some (.ref 83), some (.ref 99), some (.int (x2 + 1))]) rfl rfl rfl rfl rfl ?_
    refine xo_12 rfl ?_
    exact H
  · intro hc1 H
    refine xo_44 rfl ?_
    exact H
theorem sm_203_84_100 (H : am_X L xs d 203 2 [some (.ref 84), some (.ref 100), some (.int 0)] [] am_C0 h o g Q T) : am_X L xs d 203 0 [some (.ref 84), some (.ref 100), none] [] am_C0 h o g Q T := by
  refine xo_0 rfl ?_
  refine xo_4 (lv' := [some (.ref 84), some (.ref 100), some (.int 0)]) rfl rfl rfl ?_
  exact H
theorem sm_203_84_100_2 {x2 : Int32} (H : (if x2 < 80 then (am_ix x2 80 ∧ am_X L xs d 203 2 [some (.ref 84), some (.ref 100), some (.int (x2 + 1))] [] am_C0 (am_set h 84 x2.toNatClampNeg (h 100 x2.toNatClampNeg)) o g Q T) else Q none h o g)) : am_X L xs d 203 2 [some (.ref 84), some (.ref 100), some (.int x2)] [] am_C0 h o g Q T := by
  refine xo_1 rfl rfl ?_
  refine xo_2 rfl rfl ?_
  refine xo_27 (z := 80) rfl ca_84 (Nat.le_of_ble_eq_true rfl) rfl ?_
  refine xo_11ge rfl (am_sp ?_ ?_ H)
  · intro hc1 H
    refine xo_2 rfl rfl ?_
    refine xo_1 rfl rfl ?_
    refine xo_2 rfl rfl ?_
    refine xo_1 rfl rfl ?_
    obtain ⟨hg2, H⟩ := H
    refine xo_17 rfl ca_100 hg2 ?_
    refine xo_22 rfl ca_84 hg2 ?_
    refine xo_9 (z := (x2 + 1)) (lv' := [some (.ref 84), some (.ref 100), some (.int (x2 + 1))]) rfl rfl rfl rfl rfl ?_
    refine xo_12 rfl ?_
    exact H
  · intro hc1 H
    refine xo_44 rfl ?_
    exact H
theorem sm_203_85_101 (H : am_X L xs d 203 2 [some (.ref 85), some (.ref 101), some (.int 0)] [] am_C0 h o g Q T) : am_X L xs d 203 0 [some (.ref 85), some (.ref 101), none] [] am_C0 h o g Q T := by
  refine xo_0 rfl ?_
  refine xo_4 (lv' := [some (.ref 85), some (.ref 101), some (.int 0)]) rfl rfl rfl ?_
  exact H
theorem sm_203_85_101_2 {x2 : Int32} (H : (if x2 < 80 then (am_ix x2 80 ∧ am_X L xs d 203 2 [some (.ref 85), some (.ref 101), some (.int (x2 + 1))] [] am_C0 (am_set h 85 x2.toNatClampNeg (h 101 x2.toNatClampNeg)) o g Q T) else Q none h o g)) : am_X L xs d 203 2 [some (.ref 85), some (.ref 101), some (.int x2)] [] am_C0 h o g Q T := by
  refine xo_1 rfl rfl ?_
  refine xo_2 rfl rfl ?_
  refine xo_27 (z := 80) rfl ca_85 (Nat.le_of_ble_eq_true rfl) rfl ?_
  refine xo_11ge rfl (am_sp ?_ ?_ H)
  · intro hc1 H
    refine xo_2 rfl rfl ?_
    refine xo_1 rfl rfl ?_
    refine xo_2 rfl rfl ?_
    refine xo_1 rfl rfl ?_
    obtain ⟨hg2, H⟩ := H
    refine xo_17 rfl ca_101 hg2 ?_
    refine xo_22 rfl ca_85 hg2 ?_
    refine xo_9 (z := (x2 + 1)) (lv' := [some (.ref 85), some (.ref 101), some (.int (x2 + 1))]) rfl rfl rfl rfl rfl ?_
    refine xo_12 rfl ?_
    exact H
  · intro hc1 H
    refine xo_44 rfl ?_
    exact H
theorem sm_203_86_102 (H : am_X L xs d 203 2 [some (.ref 86), some (.ref 102), some (.int 0)] [] am_C0 h o g Q T) : am_X L xs d 203 0 [some (.ref 86), some (.ref 102), none] [] am_C0 h o g Q T := by
  refine xo_0 rfl ?_
  refine xo_4 (lv' := [some (.ref 86), some (.ref 102), some (.int 0)]) rfl rfl rfl ?_
  exact H
theorem sm_203_86_102_2 {x2 : Int32} (H : (if x2 < 80 then (am_ix x2 80 ∧ am_X L xs d 203 2 [some (.ref 86), some (.ref 102), some (.int (x2 + 1))] [] am_C0 (am_set h 86 x2.toNatClampNeg (h 102 x2.toNatClampNeg)) o g Q T) else Q none h o g)) : am_X L xs d 203 2 [some (.ref 86), some (.ref 102), some (.int x2)] [] am_C0 h o g Q T := by
  refine xo_1 rfl rfl ?_
  refine xo_2 rfl rfl ?_
  refine xo_27 (z := 80) rfl ca_86 (Nat.le_of_ble_eq_true rfl) rfl ?_
  refine xo_11ge rfl (am_sp ?_ ?_ H)
  · intro hc1 H
    refine xo_2 rfl rfl ?_
    refine xo_1 rfl rfl ?_
    refine xo_2 rfl rfl ?_
    refine xo_1 rfl rfl ?_
    obtain ⟨hg2, H⟩ := H
    refine xo_17 rfl ca_102 hg2 ?_
    refine xo_22 rfl ca_86 hg2 ?_
    refine xo_9 (z := (x2 + 1)) (lv' := [some (.ref 86), some (.ref 102), some (.int (x2 + 1))]) rfl rfl rfl rfl rfl ?_
    refine xo_12 rfl ?_
    exact H
  · intro hc1 H
    refine xo_44 rfl ?_
    exact H
theorem sm_203_98_82 (H : am_X L xs d 203 2 [some (.ref 98), some (.ref 82), some (.int 0)] [] am_C0 h o g Q T) : am_X L xs d 203 0 [some (.ref 98), some (.ref 82), none] [] am_C0 h o g Q T := by
  refine xo_0 rfl ?_
  refine xo_4 (lv' := [some (.ref 98), some (.ref 82), some (.int 0)]) rfl rfl rfl ?_
  exact H
theorem sm_203_98_82_2 {x2 : Int32} (H : (if x2 < 80 then (am_ix x2 80 ∧ am_X L xs d 203 2 [some (.ref 98), some (.ref 82), some (.int (x2 + 1))] [] am_C0 (am_set h 98 x2.toNatClampNeg (h 82 x2.toNatClampNeg)) o g Q T) else Q none h o g)) : am_X L xs d 203 2 [some (.ref 98), some (.ref 82), some (.int x2)] [] am_C0 h o g Q T := by
  refine xo_1 rfl rfl ?_
  refine xo_2 rfl rfl ?_
  refine xo_27 (z := 80) rfl ca_98 (Nat.le_of_ble_eq_true rfl) rfl ?_
  refine xo_11ge rfl (am_sp ?_ ?_ H)
  · intro hc1 H
    refine xo_2 rfl rfl ?_
    refine xo_1 rfl rfl ?_
    refine xo_2 rfl rfl ?_
    refine xo_1 rfl rfl ?_
    obtain ⟨hg2, H⟩ := H
    refine xo_17 rfl ca_82 hg2 ?_
    refine xo_22 rfl ca_98 hg2 ?_
    refine xo_9 (z := (x2 + 1)) (lv' := [some (.ref 98), some (.ref 82), some (.int (x2 + 1))]) rfl rfl rfl rfl rfl ?_
    refine xo_12 rfl ?_
    exact H
  · intro hc1 H
    refine xo_44 rfl ?_
    exact H
theorem sm_203_99_83 (H : am_X L xs d 203 2 [some (.ref 99), some (.ref 83), some (.int 0)] [] am_C0 h o g Q T) : am_X L xs d 203 0 [some (.ref 99), some (.ref 83), none] [] am_C0 h o g Q T := by
  refine xo_0 rfl ?_
  refine xo_4 (lv' := [some (.ref 99), some (.ref 83), some (.int 0)]) rfl rfl rfl ?_
  exact H
theorem sm_203_99_83_2 {x2 : Int32} (H : (if x2 < 80 then (am_ix x2 80 ∧ am_X L xs d 203 2 [some (.ref 99), some (.ref 83), some (.int (x2 + 1))] [] am_C0 (am_set h 99 x2.toNatClampNeg (h 83 x2.toNatClampNeg)) o g Q T) else Q none h o g)) : am_X L xs d 203 2 [some (.ref 99), some (.ref 83), some (.int x2)] [] am_C0 h o g Q T := by
  refine xo_1 rfl rfl ?_
  refine xo_2 rfl rfl ?_
  refine xo_27 (z := 80) rfl ca_99 (Nat.le_of_ble_eq_true rfl) rfl ?_
  refine xo_11ge rfl (am_sp ?_ ?_ H)
  · intro hc1 H
    refine xo_2 rfl rfl ?_
    refine xo_1 rfl rfl ?_
    refine xo_2 rfl rfl ?_
    refine xo_1 rfl rfl ?_
    obtain ⟨hg2, H⟩ := H
    refine xo_17 rfl ca_83 hg2 ?_
    refine xo_22 rfl ca_99 hg2 ?_
    refine xo_9 (z := (x2 + 1)) (lv' := [some (.ref 99), some (.ref 83), some (.int (x2 + 1))]) rfl rfl rfl rfl rfl ?_
    refine xo_12 rfl ?_
    exact H
  · intro hc1 H
    refine xo_44 rfl ?_
    exact H
theorem sm_204 (H : (if (h 64 51) = 0 then Q (some (.int 0)) (am_set h 64 3 0) o g else am_X L xs d 203 0 [some (.ref 82), some (.ref 98), none] [] am_C0 (am_set (am_set h 64 3 0) 64 28 (h 64 52)) o g (fun w h' o' g' => am_X L xs (d + 1) 204 33 [some (.ref 64), none] (w.toList ++ []) am_C0 h' o' g' Q T) T)) : am_X L xs (d + 1) 204 0 [some (.ref 64), none] [] am_C0 h o g Q T := by
  refine xo_2 rfl rfl ?_
  refine xo_0 rfl ?_
  refine xo_14 rfl cf_64_3 ?_
  refine xo_2 rfl rfl ?_
  refine xo_13 rfl cf_64_51 ?_
  refine xo_10ne rfl (am_sp ?_ ?_ H)
  · intro hc1 H
    refine xo_0 rfl ?_
    refine xo_42 rfl rfl ?_
    exact H
  · intro hc1 H
    refine xo_2 rfl rfl ?_
    refine xo_2 rfl rfl ?_
    refine xo_13 rfl cf_64_52 ?_
    refine xo_14 rfl cf_64_28 ?_
    refine xo_2 rfl rfl ?_
    refine xo_13r rfl cr_64_29 ?_
    refine xo_2 rfl rfl ?_
    refine xo_13r rfl cr_64_53 ?_
    refine cl_203_82_98 rfl hd_204 rfl ?_
    exact H
theorem sm_204_33 {q1 : Option Value} (hq1 : am_nl q1 = true) (H : am_X L xs d 203 0 [some (.ref 83), some (.ref 99), none] [] am_C0 h o g (fun w h' o' g' => am_X L xs (d + 1) 204 44 [some (.ref 64), q1] (w.toList ++ []) am_C0 h' o' g' Q T) T) : am_X L xs (d + 1) 204 33 [some (.ref 64), q1] [] am_C0 h o g Q T := by
  refine xo_2 rfl rfl ?_
  refine xo_13r rfl cr_64_30 ?_
  refine xo_2 rfl rfl ?_
  refine xo_13r rfl cr_64_54 ?_
  refine cl_203_83_99 rfl hd_204 rfl ?_
  exact H
theorem sm_204_44 {q1 : Option Value} (hq1 : am_nl q1 = true) (H : am_X L xs d 203 0 [some (.ref 84), some (.ref 100), none] [] am_C0 h o g (fun w h' o' g' => am_X L xs (d + 1) 204 55 [some (.ref 64), q1] (w.toList ++ []) am_C0 h' o' g' Q T) T) : am_X L xs (d + 1) 204 44 [some (.ref 64), q1] [] am_C0 h o g Q T := by
  refine xo_2 rfl rfl ?_
  refine xo_13r rfl cr_64_31 ?_
  refine xo_2 rfl rfl ?_
  refine xo_13r rfl cr_64_55 ?_
  refine cl_203_84_100 rfl hd_204 rfl ?_
  exact H
theorem sm_204_55 {q1 : Option Value} (hq1 : am_nl q1 = true) (H : am_X L xs d 203 0 [some (.ref 85), some (.ref 101), none] [] am_C0 h o g (fun w h' o' g' => am_X L xs (d + 1) 204 66 [some (.ref 64), q1] (w.toList ++ []) am_C0 h' o' g' Q T) T) : am_X L xs (d + 1) 204 55 [some (.ref 64), q1] [] am_C0 h o g Q T := by
  refine xo_2 rfl rfl ?_
  refine xo_13r rfl cr_64_32 ?_
  refine xo_2 rfl rfl ?_
  refine xo_13r rfl cr_64_56 ?_
  refine cl_203_85_101 rfl hd_204 rfl ?_
  exact H
theorem sm_204_66 {q1 : Option Value} (hq1 : am_nl q1 = true) (H : am_X L xs d 203 0 [some (.ref 86), some (.ref 102), none] [] am_C0 h o g (fun w h' o' g' => am_X L xs (d + 1) 204 77 [some (.ref 64), q1] (w.toList ++ []) am_C0 h' o' g' Q T) T) : am_X L xs (d + 1) 204 66 [some (.ref 64), q1] [] am_C0 h o g Q T := by
  refine xo_2 rfl rfl ?_
  refine xo_13r rfl cr_64_33 ?_
  refine xo_2 rfl rfl ?_
  refine xo_13r rfl cr_64_57 ?_
  refine cl_203_86_102 rfl hd_204 rfl ?_
  exact H
theorem sm_204_77 {q1 : Option Value} (hq1 : am_nl q1 = true) (H : am_X L xs d 203 0 [some (.ref 77), some (.ref 103), none] [] am_C0 h o g (fun w h' o' g' => am_X L xs (d + 1) 204 88 [some (.ref 64), q1] (w.toList ++ []) am_C0 h' o' g' Q T) T) : am_X L xs (d + 1) 204 77 [some (.ref 64), q1] [] am_C0 h o g Q T := by
  refine xo_2 rfl rfl ?_
  refine xo_13r rfl cr_64_13 ?_
  refine xo_2 rfl rfl ?_
  refine xo_13r rfl cr_64_58 ?_
  refine cl_203_77_103 rfl hd_204 rfl ?_
  exact H
theorem sm_204_88 {q1 : Option Value} (hq1 : am_nl q1 = true) (H : am_X L xs d 203 0 [some (.ref 79), some (.ref 104), none] [] am_C0 h o g (fun w h' o' g' => am_X L xs (d + 1) 204 99 [some (.ref 64), q1] (w.toList ++ []) am_C0 h' o' g' Q T) T) : am_X L xs (d + 1) 204 88 [some (.ref 64), q1] [] am_C0 h o g Q T := by
  refine xo_2 rfl rfl ?_
  refine xo_13r rfl cr_64_15 ?_
  refine xo_2 rfl rfl ?_
  refine xo_13r rfl cr_64_59 ?_
  refine cl_203_79_104 rfl hd_204 rfl ?_
  exact H
theorem sm_204_99 {q1 : Option Value} (hq1 : am_nl q1 = true) (H : am_X L xs d 203 0 [some (.ref 80), some (.ref 105), none] [] am_C0 h o g (fun w h' o' g' => am_X L xs (d + 1) 204 110 [some (.ref 64), q1] (w.toList ++ []) am_C0 h' o' g' Q T) T) : am_X L xs (d + 1) 204 99 [some (.ref 64), q1] [] am_C0 h o g Q T := by
  refine xo_2 rfl rfl ?_
  refine xo_13r rfl cr_64_16 ?_
  refine xo_2 rfl rfl ?_
  refine xo_13r rfl cr_64_60 ?_
  refine cl_203_80_105 rfl hd_204 rfl ?_
  exact H
theorem sm_204_110 {q1 : Option Value} (hq1 : am_nl q1 = true) (H : am_X L xs d 203 0 [some (.ref 78), some (.ref 106), none] [] am_C0 h o g (fun w h' o' g' => am_X L xs (d + 1) 204 121 [some (.ref 64), q1] (w.toList ++ []) am_C0 h' o' g' Q T) T) : am_X L xs (d + 1) 204 110 [some (.ref 64), q1] [] am_C0 h o g Q T := by
  refine xo_2 rfl rfl ?_
  refine xo_13r rfl cr_64_14 ?_
  refine xo_2 rfl rfl ?_
  refine xo_13r rfl cr_64_61 ?_
  refine cl_203_78_106 rfl hd_204 rfl ?_
  exact H
theorem sm_204_121 {q1 : Option Value} (hq1 : am_nl q1 = true) (H : am_X L xs d 204 123 [some (.ref 64), some (.int 0)] [] am_C0 h o g Q T) : am_X L xs d 204 121 [some (.ref 64), q1] [] am_C0 h o g Q T := by
  refine xo_0 rfl ?_
  refine xo_4 (lv' := [some (.ref 64), some (.int 0)]) rfl rfl rfl ?_
  exact H
theorem sm_204_123 {x1 : Int32} (H : (if x1 < 80 then (am_ix x1 80 ∧ am_X L xs d 204 123 [some (.ref 64), some (.int (x1 + 1))] [] am_C0 (am_set h 87 x1.toNatClampNeg (vp_nar .boolean (h 107 x1.toNatClampNeg))) o g Q T) else Q (some (.int 1)) h o g)) : am_X L xs d 204 123 [some (.ref 64), some (.int x1)] [] am_C0 h o g Q T := by
  refine xo_1 rfl rfl ?_
  refine xo_0 rfl ?_
  refine xo_11ge rfl (am_sp ?_ ?_ H)
  · intro hc1 H
    refine xo_2 rfl rfl ?_
    refine xo_13r rfl cr_64_34 ?_
    refine xo_1 rfl rfl ?_
    refine xo_2 rfl rfl ?_
    refine xo_13r rfl cr_64_62 ?_
    refine xo_1 rfl rfl ?_
    obtain ⟨hg2, H⟩ := H
    refine xo_18b rfl ca_107 hg2 ?_
    refine xo_23b rfl ca_87 hg2 ?_
    refine xo_9 (z := (x1 + 1)) (lv' := [some (.ref 64), some (.int (x1 + 1))]) rfl rfl rfl rfl rfl ?_
    refine xo_12 rfl ?_
    exact H
  · intro hc1 H
    refine xo_0 rfl ?_
    refine xo_42 rfl rfl ?_
    exact H
