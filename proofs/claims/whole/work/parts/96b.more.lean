/-! ===== more of what the methods do: waits in a row of longs, the rows of water ===== -/
variable {L : Nat} {xs : Nat → Int32} {d : Nat} {h : am_M} {o : am_L} {g : Nat} {Q : Option Value → am_M → am_L → Nat → Prop} {T : Nat → am_M → am_L → Nat → Prop}
theorem sm_92_61l {x1 : Int32} {x2 : Int32} {x3 : Int32} {y4 : Int64} {y6 : Int64} {x8 : Int32} {q9 : Option Value} {q10 : Option Value} (H : (if (h 12 2) < x8 then Q (some (.int 0)) h o g else (am_ix x3 5 ∧ (if x3 = 0 then (am_ix ((3 * x1) + x8) 15 ∧ (if (h 50 (((3 * x1) + x8).toNatClampNeg)) < (h 46 x3.toNatClampNeg) then am_X L xs (d + 1) 92 61 [some (.ref 45), some (.int x1), some (.int x2), some (.int x3), some (.long y4), none, some (.long y6), none, some (.int (x8 + 1)), some (.long (y6 <<< (x8.toInt64 &&& 63))), none] [] am_C0 h o g Q T else (if (lg_cmp ((y6 <<< (x8.toInt64 &&& 63)) &&& y4) (Int64.ofNat 0)) = 0 then am_X L xs d 92 0 [some (.ref 45), some (.int x1), some (.int x2), some (.int (x3 + 1)), some (.long (y4 ||| (y6 <<< (x8.toInt64 &&& 63)))), none, none, none, none, none, none] [] am_C0 (am_set h 48 x3.toNatClampNeg x8) o g (fun w h' o' g' => am_X L xs (d + 1) 92 136 [some (.ref 45), some (.int x1), some (.int x2), some (.int x3), some (.long y4), none, some (.long y6), none, some (.int x8), some (.long (y6 <<< (x8.toInt64 &&& 63))), none] (w.toList ++ []) am_C0 h' o' g' Q T) T else am_X L xs (d + 1) 92 61 [some (.ref 45), some (.int x1), some (.int x2), some (.int x3), some (.long y4), none, some (.long y6), none, some (.int (x8 + 1)), some (.long (y6 <<< (x8.toInt64 &&& 63))), none] [] am_C0 h o g Q T))) else (if x3 = 1 then (am_ix ((3 * x1) + x8) 15 ∧ (if (h 51 (((3 * x1) + x8).toNatClampNeg)) < (h 46 x3.toNatClampNeg) then am_X L xs (d + 1) 92 61 [some (.ref 45), some (.int x1), some (.int x2), some (.int x3), some (.long y4), none, some (.long y6), none, some (.int (x8 + 1)), some (.long (y6 <<< (x8.toInt64 &&& 63))), none] [] am_C0 h o g Q T else (if (lg_cmp ((y6 <<< (x8.toInt64 &&& 63)) &&& y4) (Int64.ofNat 0)) = 0 then am_X L xs d 92 0 [some (.ref 45), some (.int x1), some (.int x2), some (.int (x3 + 1)), some (.long (y4 ||| (y6 <<< (x8.toInt64 &&& 63)))), none, none, none, none, none, none] [] am_C0 (am_set h 48 x3.toNatClampNeg x8) o g (fun w h' o' g' => am_X L xs (d + 1) 92 136 [some (.ref 45), some (.int x1), some (.int x2), some (.int x3), some (.long y4), none, some (.long y6), none, some (.int x8), some (.long (y6 <<< (x8.toInt64 &&& 63))), none] (w.toList ++ []) am_C0 h' o' g' Q T) T else am_X L xs (d + 1) 92 61 [some (.ref 45), some (.int x1), some (.int x2), some (.int x3), some (.long y4), none, some (.long y6), none, some (.int (x8 + 1)), some (.long (y6 <<< (x8.toInt64 &&& 63))), none] [] am_C0 h o g Q T))) else (if x3 = 2 then (am_ix ((3 * x1) + x8) 15 ∧ (if (h 52 (((3 * x1) + x8).toNatClampNeg)) < (h 46 x3.toNatClampNeg) then am_X L xs (d + 1) 92 61 [some (.ref 45), some (.int x1), some (.int x2), some (.int x3), some (.long y4), none, some (.long y6), none, some (.int (x8 + 1)), some (.long (y6 <<< (x8.toInt64 &&& 63))), none] [] am_C0 h o g Q T else (if (lg_cmp ((y6 <<< (x8.toInt64 &&& 63)) &&& y4) (Int64.ofNat 0)) = 0 then am_X L xs d 92 0 [some (.ref 45), some (.int x1), some (.int x2), some (.int (x3 + 1)), some (.long (y4 ||| (y6 <<< (x8.toInt64 &&& 63)))), none, none, none, none, none, none] [] am_C0 (am_set h 48 x3.toNatClampNeg x8) o g (fun w h' o' g' => am_X L xs (d + 1) 92 136 [some (.ref 45), some (.int x1), some (.int x2), some (.int x3), some (.long y4), none, some (.long y6), none, some (.int x8), some (.long (y6 <<< (x8.toInt64 &&& 63))), none] (w.toList ++ []) am_C0 h' o' g' Q T) T else am_X L xs (d + 1) 92 61 [some (.ref 45), some (.int x1), some (.int x2), some (.int x3), some (.long y4), none, some (.long y6), none, some (.int (x8 + 1)), some (.long (y6 <<< (x8.toInt64 &&& 63))), none] [] am_C0 h o g Q T))) else (if x3 = 3 then (am_ix ((3 * x1) + x8) 15 ∧ (if (h 53 (((3 * x1) + x8).toNatClampNeg)) < (h 46 x3.toNatClampNeg) then am_X L xs (d + 1) 92 61 [some (.ref 45), some (.int x1), some (.int x2), some (.int x3), some (.long y4), none, some (.long y6), none, some (.int (x8 + 1)), some (.long (y6 <<< (x8.toInt64 &&& 63))), none] [] am_C0 h o g Q T else (if (lg_cmp ((y6 <<< (x8.toInt64 &&& 63)) &&& y4) (Int64.ofNat 0)) = 0 then am_X L xs d 92 0 [some (.ref 45), some (.int x1), some (.int x2), some (.int (x3 + 1)), some (.long (y4 ||| (y6 <<< (x8.toInt64 &&& 63)))), none, none, none, none, none, none] [] am_C0 (am_set h 48 x3.toNatClampNeg x8) o g (fun w h' o' g' => am_X L xs (d + 1) 92 136 [some (.ref 45), some (.int x1), some (.int x2), some (.int x3), some (.long y4), none, some (.long y6), none, some (.int x8), some (.long (y6 <<< (x8.toInt64 &&& 63))), none] (w.toList ++ []) am_C0 h' o' g' Q T) T else am_X L xs (d + 1) 92 61 [some (.ref 45), some (.int x1), some (.int x2), some (.int x3), some (.long y4), none, some (.long y6), none, some (.int (x8 + 1)), some (.long (y6 <<< (x8.toInt64 &&& 63))), none] [] am_C0 h o g Q T))) else (if x3 = 4 then (am_ix ((3 * x1) + x8) 15 ∧ (if (h 54 (((3 * x1) + x8).toNatClampNeg)) < (h 46 x3.toNatClampNeg) then am_X L xs (d + 1) 92 61 [some (.ref 45), some (.int x1), some (.int x2), some (.int x3), some (.long y4), none, some (.long y6), none, some (.int (x8 + 1)), some (.long (y6 <<< (x8.toInt64 &&& 63))), none] [] am_C0 h o g Q T else (if (lg_cmp ((y6 <<< (x8.toInt64 &&& 63)) &&& y4) (Int64.ofNat 0)) = 0 then am_X L xs d 92 0 [some (.ref 45), some (.int x1), some (.int x2), some (.int (x3 + 1)), some (.long (y4 ||| (y6 <<< (x8.toInt64 &&& 63)))), none, none, none, none, none, none] [] am_C0 (am_set h 48 x3.toNatClampNeg x8) o g (fun w h' o' g' => am_X L xs (d + 1) 92 136 [some (.ref 45), some (.int x1), some (.int x2), some (.int x3), some (.long y4), none, some (.long y6), none, some (.int x8), some (.long (y6 <<< (x8.toInt64 &&& 63))), none] (w.toList ++ []) am_C0 h' o' g' Q T) T else am_X L xs (d + 1) 92 61 [some (.ref 45), some (.int x1), some (.int x2), some (.int x3), some (.long y4), none, some (.long y6), none, some (.int (x8 + 1)), some (.long (y6 <<< (x8.toInt64 &&& 63))), none] [] am_C0 h o g Q T))) else False)))))))) : am_X L xs (d + 1) 92 61 [some (.ref 45), some (.int x1), some (.int x2), some (.int x3), some (.long y4), none, some (.long y6), none, some (.int x8), q9, q10] [] am_C0 h o g Q T := by
  refine xo_1 rfl rfl ?_
  refine xo_2 rfl rfl ?_
  refine xo_13r rfl cr_45_3 ?_
  refine xo_13r rfl cr_3_11 ?_
  refine xo_0 rfl ?_
  refine xo_17 rfl ca_12 (am_ix.lit rfl) ?_
  refine xo_11gt rfl (am_sp ?_ ?_ H)
  · intro hc1 H
    refine xo_0 rfl ?_
    refine xo_42 rfl rfl ?_
    exact H
  · intro hc1 H
    refine xo_3 rfl rfl ?_
    refine xo_1 rfl rfl ?_
    refine xo_33 rfl ?_
    refine xo_6 (lv' := [some (.ref 45), some (.int x1), some (.int x2), some (.int x3), some (.long y4), none, some (.long y6), none, some (.int x8), some (.long (y6 <<< (x8.toInt64 &&& 63))), none]) rfl (Nat.le_of_ble_eq_true rfl) rfl ?_
    refine xo_2 rfl rfl ?_
    refine xo_13r rfl cr_45_0 ?_
    refine xo_1 rfl rfl ?_
    obtain ⟨hg2, H⟩ := H
    refine xo_17 rfl ca_46 hg2 ?_
    refine xo_2 rfl rfl ?_
    refine xo_13r rfl cr_45_4 ?_
    refine xo_1 rfl rfl ?_
    by_cases hc3 : x3 = 0
    · rw [if_pos hc3] at H
      refine xo_20 (w := 50) rfl cb_49 (by rw [hc3]; exact am_ix.lit rfl) (by rw [hc3]; rfl) ?_
      refine xo_0 rfl ?_
      refine xo_1 rfl rfl ?_
      refine xo_7 rfl rfl ?_
      refine xo_1 rfl rfl ?_
      refine xo_7 rfl rfl ?_
      obtain ⟨hg4, H⟩ := H
      refine xo_17 rfl ca_50 hg4 ?_
      refine xo_11gt rfl (am_sp ?_ ?_ H)
      · intro hc5 H
        refine xo_9 (z := (x8 + 1)) (lv' := [some (.ref 45), some (.int x1), some (.int x2), some (.int x3), some (.long y4), none, some (.long y6), none, some (.int (x8 + 1)), some (.long (y6 <<< (x8.toInt64 &&& 63))), none]) rfl rfl rfl rfl rfl ?_
        refine xo_12 rfl ?_
        exact H
      · intro hc5 H
        refine xo_3 rfl rfl ?_
        refine xo_3 rfl rfl ?_
        refine xo_8 rfl rfl ?_
        refine xo_31 rfl ?_
        refine xo_34 rfl ?_
        refine xo_10ne rfl (am_sp ?_ ?_ H)
        · intro hc6 H
          refine xo_2 rfl rfl ?_
          refine xo_13r rfl cr_45_2 ?_
          refine xo_1 rfl rfl ?_
          refine xo_1 rfl rfl ?_
          refine xo_22 rfl ca_48 hg2 ?_
          refine xo_2 rfl rfl ?_
          refine xo_1 rfl rfl ?_
          refine xo_1 rfl rfl ?_
          refine xo_1 rfl rfl ?_
          refine xo_0 rfl ?_
          refine xo_7 rfl rfl ?_
          refine xo_3 rfl rfl ?_
          refine xo_3 rfl rfl ?_
          refine xo_8 rfl rfl ?_
          refine cl_92_45 rfl hd_92 rfl ?_
          exact H
        · intro hc6 H
          refine xo_9 (z := (x8 + 1)) (lv' := [some (.ref 45), some (.int x1), some (.int x2), some (.int x3), some (.long y4), none, some (.long y6), none, some (.int (x8 + 1)), some (.long (y6 <<< (x8.toInt64 &&& 63))), none]) rfl rfl rfl rfl rfl ?_
          refine xo_12 rfl ?_
          exact H
    · rw [if_neg hc3] at H
      by_cases hc7 : x3 = 1
      · rw [if_pos hc7] at H
        refine xo_20 (w := 51) rfl cb_49 (by rw [hc7]; exact am_ix.lit rfl) (by rw [hc7]; rfl) ?_
        refine xo_0 rfl ?_
        refine xo_1 rfl rfl ?_
        refine xo_7 rfl rfl ?_
        refine xo_1 rfl rfl ?_
        refine xo_7 rfl rfl ?_
        obtain ⟨hg8, H⟩ := H
        refine xo_17 rfl ca_51 hg8 ?_
        refine xo_11gt rfl (am_sp ?_ ?_ H)
        · intro hc9 H
          refine xo_9 (z := (x8 + 1)) (lv' := [some (.ref 45), some (.int x1), some (.int x2), some (.int x3), some (.long y4), none, some (.long y6), none, some (.int (x8 + 1)), some (.long (y6 <<< (x8.toInt64 &&& 63))), none]) rfl rfl rfl rfl rfl ?_
          refine xo_12 rfl ?_
          exact H
        · intro hc9 H
          refine xo_3 rfl rfl ?_
          refine xo_3 rfl rfl ?_
          refine xo_8 rfl rfl ?_
          refine xo_31 rfl ?_
          refine xo_34 rfl ?_
          refine xo_10ne rfl (am_sp ?_ ?_ H)
          · intro hc10 H
            refine xo_2 rfl rfl ?_
            refine xo_13r rfl cr_45_2 ?_
            refine xo_1 rfl rfl ?_
            refine xo_1 rfl rfl ?_
            refine xo_22 rfl ca_48 hg2 ?_
            refine xo_2 rfl rfl ?_
            refine xo_1 rfl rfl ?_
            refine xo_1 rfl rfl ?_
            refine xo_1 rfl rfl ?_
            refine xo_0 rfl ?_
            refine xo_7 rfl rfl ?_
            refine xo_3 rfl rfl ?_
            refine xo_3 rfl rfl ?_
            refine xo_8 rfl rfl ?_
            refine cl_92_45 rfl hd_92 rfl ?_
            exact H
          · intro hc10 H
            refine xo_9 (z := (x8 + 1)) (lv' := [some (.ref 45), some (.int x1), some (.int x2), some (.int x3), some (.long y4), none, some (.long y6), none, some (.int (x8 + 1)), some (.long (y6 <<< (x8.toInt64 &&& 63))), none]) rfl rfl rfl rfl rfl ?_
            refine xo_12 rfl ?_
            exact H
      · rw [if_neg hc7] at H
        by_cases hc11 : x3 = 2
        · rw [if_pos hc11] at H
          refine xo_20 (w := 52) rfl cb_49 (by rw [hc11]; exact am_ix.lit rfl) (by rw [hc11]; rfl) ?_
          refine xo_0 rfl ?_
          refine xo_1 rfl rfl ?_
          refine xo_7 rfl rfl ?_
          refine xo_1 rfl rfl ?_
          refine xo_7 rfl rfl ?_
          obtain ⟨hg12, H⟩ := H
          refine xo_17 rfl ca_52 hg12 ?_
          refine xo_11gt rfl (am_sp ?_ ?_ H)
          · intro hc13 H
            refine xo_9 (z := (x8 + 1)) (lv' := [some (.ref 45), some (.int x1), some (.int x2), some (.int x3), some (.long y4), none, some (.long y6), none, some (.int (x8 + 1)), some (.long (y6 <<< (x8.toInt64 &&& 63))), none]) rfl rfl rfl rfl rfl ?_
            refine xo_12 rfl ?_
            exact H
          · intro hc13 H
            refine xo_3 rfl rfl ?_
            refine xo_3 rfl rfl ?_
            refine xo_8 rfl rfl ?_
            refine xo_31 rfl ?_
            refine xo_34 rfl ?_
            refine xo_10ne rfl (am_sp ?_ ?_ H)
            · intro hc14 H
              refine xo_2 rfl rfl ?_
              refine xo_13r rfl cr_45_2 ?_
              refine xo_1 rfl rfl ?_
              refine xo_1 rfl rfl ?_
              refine xo_22 rfl ca_48 hg2 ?_
              refine xo_2 rfl rfl ?_
              refine xo_1 rfl rfl ?_
              refine xo_1 rfl rfl ?_
              refine xo_1 rfl rfl ?_
              refine xo_0 rfl ?_
              refine xo_7 rfl rfl ?_
              refine xo_3 rfl rfl ?_
              refine xo_3 rfl rfl ?_
              refine xo_8 rfl rfl ?_
              refine cl_92_45 rfl hd_92 rfl ?_
              exact H
            · intro hc14 H
              refine xo_9 (z := (x8 + 1)) (lv' := [some (.ref 45), some (.int x1), some (.int x2), some (.int x3), some (.long y4), none, some (.long y6), none, some (.int (x8 + 1)), some (.long (y6 <<< (x8.toInt64 &&& 63))), none]) rfl rfl rfl rfl rfl ?_
              refine xo_12 rfl ?_
              exact H
        · rw [if_neg hc11] at H
          by_cases hc15 : x3 = 3
          · rw [if_pos hc15] at H
            refine xo_20 (w := 53) rfl cb_49 (by rw [hc15]; exact am_ix.lit rfl) (by rw [hc15]; rfl) ?_
            refine xo_0 rfl ?_
            refine xo_1 rfl rfl ?_
            refine xo_7 rfl rfl ?_
            refine xo_1 rfl rfl ?_
            refine xo_7 rfl rfl ?_
            obtain ⟨hg16, H⟩ := H
            refine xo_17 rfl ca_53 hg16 ?_
            refine xo_11gt rfl (am_sp ?_ ?_ H)
            · intro hc17 H
              refine xo_9 (z := (x8 + 1)) (lv' := [some (.ref 45), some (.int x1), some (.int x2), some (.int x3), some (.long y4), none, some (.long y6), none, some (.int (x8 + 1)), some (.long (y6 <<< (x8.toInt64 &&& 63))), none]) rfl rfl rfl rfl rfl ?_
              refine xo_12 rfl ?_
              exact H
            · intro hc17 H
              refine xo_3 rfl rfl ?_
              refine xo_3 rfl rfl ?_
              refine xo_8 rfl rfl ?_
              refine xo_31 rfl ?_
              refine xo_34 rfl ?_
              refine xo_10ne rfl (am_sp ?_ ?_ H)
              · intro hc18 H
                refine xo_2 rfl rfl ?_
                refine xo_13r rfl cr_45_2 ?_
                refine xo_1 rfl rfl ?_
                refine xo_1 rfl rfl ?_
                refine xo_22 rfl ca_48 hg2 ?_
                refine xo_2 rfl rfl ?_
                refine xo_1 rfl rfl ?_
                refine xo_1 rfl rfl ?_
                refine xo_1 rfl rfl ?_
                refine xo_0 rfl ?_
                refine xo_7 rfl rfl ?_
                refine xo_3 rfl rfl ?_
                refine xo_3 rfl rfl ?_
                refine xo_8 rfl rfl ?_
                refine cl_92_45 rfl hd_92 rfl ?_
                exact H
              · intro hc18 H
                refine xo_9 (z := (x8 + 1)) (lv' := [some (.ref 45), some (.int x1), some (.int x2), some (.int x3), some (.long y4), none, some (.long y6), none, some (.int (x8 + 1)), some (.long (y6 <<< (x8.toInt64 &&& 63))), none]) rfl rfl rfl rfl rfl ?_
                refine xo_12 rfl ?_
                exact H
          · rw [if_neg hc15] at H
            by_cases hc19 : x3 = 4
            · rw [if_pos hc19] at H
              refine xo_20 (w := 54) rfl cb_49 (by rw [hc19]; exact am_ix.lit rfl) (by rw [hc19]; rfl) ?_
              refine xo_0 rfl ?_
              refine xo_1 rfl rfl ?_
              refine xo_7 rfl rfl ?_
              refine xo_1 rfl rfl ?_
              refine xo_7 rfl rfl ?_
              obtain ⟨hg20, H⟩ := H
              refine xo_17 rfl ca_54 hg20 ?_
              refine xo_11gt rfl (am_sp ?_ ?_ H)
              · intro hc21 H
                refine xo_9 (z := (x8 + 1)) (lv' := [some (.ref 45), some (.int x1), some (.int x2), some (.int x3), some (.long y4), none, some (.long y6), none, some (.int (x8 + 1)), some (.long (y6 <<< (x8.toInt64 &&& 63))), none]) rfl rfl rfl rfl rfl ?_
                refine xo_12 rfl ?_
                exact H
              · intro hc21 H
                refine xo_3 rfl rfl ?_
                refine xo_3 rfl rfl ?_
                refine xo_8 rfl rfl ?_
                refine xo_31 rfl ?_
                refine xo_34 rfl ?_
                refine xo_10ne rfl (am_sp ?_ ?_ H)
                · intro hc22 H
                  refine xo_2 rfl rfl ?_
                  refine xo_13r rfl cr_45_2 ?_
                  refine xo_1 rfl rfl ?_
                  refine xo_1 rfl rfl ?_
                  refine xo_22 rfl ca_48 hg2 ?_
                  refine xo_2 rfl rfl ?_
                  refine xo_1 rfl rfl ?_
                  refine xo_1 rfl rfl ?_
                  refine xo_1 rfl rfl ?_
                  refine xo_0 rfl ?_
                  refine xo_7 rfl rfl ?_
                  refine xo_3 rfl rfl ?_
                  refine xo_3 rfl rfl ?_
                  refine xo_8 rfl rfl ?_
                  refine cl_92_45 rfl hd_92 rfl ?_
                  exact H
                · intro hc22 H
                  refine xo_9 (z := (x8 + 1)) (lv' := [some (.ref 45), some (.int x1), some (.int x2), some (.int x3), some (.long y4), none, some (.long y6), none, some (.int (x8 + 1)), some (.long (y6 <<< (x8.toInt64 &&& 63))), none]) rfl rfl rfl rfl rfl ?_
                  refine xo_12 rfl ?_
                  exact H
            · rw [if_neg hc19] at H
              exact absurd H id
theorem sm_92_136l {x1 : Int32} {x2 : Int32} {x3 : Int32} {y4 : Int64} {y6 : Int64} {x8 : Int32} {q9 : Option Value} {q10 : Option Value} {z0 : Int32} (H : (if z0 = 0 then am_X L xs d 92 61 [some (.ref 45), some (.int x1), some (.int x2), some (.int x3), some (.long y4), none, some (.long y6), none, some (.int (x8 + 1)), q9, q10] [] am_C0 h o g Q T else Q (some (.int 1)) h o g)) : am_X L xs d 92 136 [some (.ref 45), some (.int x1), some (.int x2), some (.int x3), some (.long y4), none, some (.long y6), none, some (.int x8), q9, q10] [.int z0] am_C0 h o g Q T := by
  refine xo_10eq rfl (am_sp ?_ ?_ H)
  · intro hc1 H
    refine xo_9 (z := (x8 + 1)) (lv' := [some (.ref 45), some (.int x1), some (.int x2), some (.int x3), some (.long y4), none, some (.long y6), none, some (.int (x8 + 1)), q9, q10]) rfl rfl rfl rfl rfl ?_
    refine xo_12 rfl ?_
    exact H
  · intro hc1 H
    refine xo_0 rfl ?_
    refine xo_42 rfl rfl ?_
    exact H
theorem sm_92_32l {q0 : Option Value} {q1 : Option Value} {q2 : Option Value} {q3 : Option Value} {q4 : Option Value} {q5 : Option Value} {q6 : Option Value} {q7 : Option Value} {q8 : Option Value} {q9 : Option Value} {q10 : Option Value} {z0 : Int32} (H : (am_bit z0 = true ∧ Q (some (.int z0)) h o g)) : am_X L xs d 92 32 [q0, q1, q2, q3, q4, q5, q6, q7, q8, q9, q10] [.int z0] am_C0 h o g Q T := by
  obtain ⟨hg1, H⟩ := H
  refine xo_42 rfl hg1 ?_
  exact H
theorem sm_86_90_51 {x1 : Int32} {x2 : Int32} {x3 : Int32} {x4 : Int32} {z1 : Int32} {z2 : Int32} (H : (am_ix z1 15 ∧ am_X L xs d 86 34 [some (.ref 45), some (.int x1), some (.int x2), some (.int x3), some (.int (x4 + 1))] [] am_C0 (am_set h 51 z1.toNatClampNeg z2) o g Q T)) : am_X L xs d 86 90 [some (.ref 45), some (.int x1), some (.int x2), some (.int x3), some (.int x4)] [.int z2, .int z1, .ref 51] am_C0 h o g Q T := by
  obtain ⟨hg1, H⟩ := H
  refine xo_22 rfl ca_51 hg1 ?_
  refine xo_9 (z := (x4 + 1)) (lv' := [some (.ref 45), some (.int x1), some (.int x2), some (.int x3), some (.int (x4 + 1))]) rfl rfl rfl rfl rfl ?_
  refine xo_12 rfl ?_
  exact H
theorem sm_86_90_52 {x1 : Int32} {x2 : Int32} {x3 : Int32} {x4 : Int32} {z1 : Int32} {z2 : Int32} (H : (am_ix z1 15 ∧ am_X L xs d 86 34 [some (.ref 45), some (.int x1), some (.int x2), some (.int x3), some (.int (x4 + 1))] [] am_C0 (am_set h 52 z1.toNatClampNeg z2) o g Q T)) : am_X L xs d 86 90 [some (.ref 45), some (.int x1), some (.int x2), some (.int x3), some (.int x4)] [.int z2, .int z1, .ref 52] am_C0 h o g Q T := by
  obtain ⟨hg1, H⟩ := H
  refine xo_22 rfl ca_52 hg1 ?_
  refine xo_9 (z := (x4 + 1)) (lv' := [some (.ref 45), some (.int x1), some (.int x2), some (.int x3), some (.int (x4 + 1))]) rfl rfl rfl rfl rfl ?_
  refine xo_12 rfl ?_
  exact H
theorem sm_86_90_53 {x1 : Int32} {x2 : Int32} {x3 : Int32} {x4 : Int32} {z1 : Int32} {z2 : Int32} (H : (am_ix z1 15 ∧ am_X L xs d 86 34 [some (.ref 45), some (.int x1), some (.int x2), some (.int x3), some (.int (x4 + 1))] [] am_C0 (am_set h 53 z1.toNatClampNeg z2) o g Q T)) : am_X L xs d 86 90 [some (.ref 45), some (.int x1), some (.int x2), some (.int x3), some (.int x4)] [.int z2, .int z1, .ref 53] am_C0 h o g Q T := by
  obtain ⟨hg1, H⟩ := H
  refine xo_22 rfl ca_53 hg1 ?_
  refine xo_9 (z := (x4 + 1)) (lv' := [some (.ref 45), some (.int x1), some (.int x2), some (.int x3), some (.int (x4 + 1))]) rfl rfl rfl rfl rfl ?_
  refine xo_12 rfl ?_
  exact H
theorem sm_86_90_54 {x1 : Int32} {x2 : Int32} {x3 : Int32} {x4 : Int32} {z1 : Int32} {z2 : Int32} (H : (am_ix z1 15 ∧ am_X L xs d 86 34 [some (.ref 45), some (.int x1), some (.int x2), some (.int x3), some (.int (x4 + 1))] [] am_C0 (am_set h 54 z1.toNatClampNeg z2) o g Q T)) : am_X L xs d 86 90 [some (.ref 45), some (.int x1), some (.int x2), some (.int x3), some (.int x4)] [.int z2, .int z1, .ref 54] am_C0 h o g Q T := by
  obtain ⟨hg1, H⟩ := H
  refine xo_22 rfl ca_54 hg1 ?_
  refine xo_9 (z := (x4 + 1)) (lv' := [some (.ref 45), some (.int x1), some (.int x2), some (.int x3), some (.int (x4 + 1))]) rfl rfl rfl rfl rfl ?_
  refine xo_12 rfl ?_
  exact H
theorem i3_n {b x : Nat} : (3 : Int32) * Int32.ofNat b + Int32.ofNat x = Int32.ofNat (3 * b + x) := by
  show Int32.ofNat 3 * Int32.ofNat b + Int32.ofNat x = _
  rw [← Int32.ofNat_mul, ← Int32.ofNat_add]
theorem i3_ix {b x : Nat} (hb : b < 5) (hx : x < 3) : am_ix ((3 : Int32) * Int32.ofNat b + Int32.ofNat x) 15 ∧ ((3 : Int32) * Int32.ofNat b + Int32.ofNat x).toNatClampNeg = 3 * b + x := by
  rw [i3_n]
  exact ⟨ix_n (by omega) (by decide), nz_c _ (by omega)⟩
theorem f183_n {s b x : Nat} : fn_183 (Int32.ofNat s) (Int32.ofNat b) (Int32.ofNat x) = Int32.ofNat ((s * 5 + b) * 3 + x) := by
  show (Int32.ofNat s * Int32.ofNat 5 + Int32.ofNat b) * Int32.ofNat 3 + Int32.ofNat x = _
  rw [← Int32.ofNat_mul, ← Int32.ofNat_add, ← Int32.ofNat_mul, ← Int32.ofNat_add]
theorem f183_ix {s b x : Nat} (hs : s < 5) (hb : b < 5) (hx : x < 3) : am_ix (fn_183 (Int32.ofNat s) (Int32.ofNat b) (Int32.ofNat x)) 75 ∧ (fn_183 (Int32.ofNat s) (Int32.ofNat b) (Int32.ofNat x)).toNatClampNeg = (s * 5 + b) * 3 + x := by
  rw [f183_n]
  exact ⟨ix_n (by omega) (by decide), nz_c _ (by omega)⟩
theorem sm_89_6u {s b x : Nat} {v acc : Int32} (hs : s < 5) (hb : b < 5) (hx : x ≤ 3) (hw : ¬ 2 < h 12 2) (H : (if h 12 2 < Int32.ofNat x then Q (some (.int acc)) h o g else if h (50 + s) (3 * b + x) < v then am_X L xs d 89 6 [some (.ref 45), some (.int (Int32.ofNat b)), some (.int (Int32.ofNat s)), some (.int v), some (.int acc), some (.int (Int32.ofNat (x + 1)))] [] am_C0 h o g Q T else am_X L xs d 89 6 [some (.ref 45), some (.int (Int32.ofNat b)), some (.int (Int32.ofNat s)), some (.int v), some (.int (acc + 1)), some (.int (Int32.ofNat (x + 1)))] [] am_C0 h o g Q T)) : am_X L xs d 89 6 [some (.ref 45), some (.int (Int32.ofNat b)), some (.int (Int32.ofNat s)), some (.int v), some (.int acc), some (.int (Int32.ofNat x))] [] am_C0 h o g Q T := by
  by_cases c0 : h 12 2 < Int32.ofNat x
  · rw [if_pos c0] at H
    exact sm_89_6 (am_ift c0 H)
  rw [if_neg c0] at H
  have hx3 : x < 3 := by
    apply Classical.byContradiction
    intro hc
    have : x = 3 := by omega
    subst this
    apply c0
    show h 12 2 < 3
    grind
  obtain ⟨i1, i2⟩ := i3_ix hb hx3
  have e : s = 0 ∨ s = 1 ∨ s = 2 ∨ s = 3 ∨ s = 4 := by omega
  rw [← nz_succ] at H
  rcases e with e | e | e | e | e <;> subst e
  · exact sm_89_6 (am_iff c0 (am_ift rfl ⟨i1, by rw [i2]; exact H⟩))
  · exact sm_89_6 (am_iff c0 (am_iff (by decide) (am_ift rfl ⟨i1, by rw [i2]; exact H⟩)))
  · exact sm_89_6 (am_iff c0 (am_iff (by decide) (am_iff (by decide) (am_ift rfl ⟨i1, by rw [i2]; exact H⟩))))
  · exact sm_89_6 (am_iff c0 (am_iff (by decide) (am_iff (by decide) (am_iff (by decide) (am_ift rfl ⟨i1, by rw [i2]; exact H⟩)))))
  · exact sm_89_6 (am_iff c0 (am_iff (by decide) (am_iff (by decide) (am_iff (by decide) (am_iff (by decide) (am_ift rfl ⟨i1, by rw [i2]; exact H⟩))))))
theorem sm_92_61u {s b x : Nat} {set : Int32} {y4 y6 : Int64} {q9 q10 : Option Value} (hs : s < 5) (hb : b < 5) (hx : x ≤ 3) (hw : ¬ 2 < h 12 2) (H : (if h 12 2 < Int32.ofNat x then Q (some (.int 0)) h o g else if h (50 + s) (3 * b + x) < h 46 s then am_X L xs (d + 1) 92 61 [some (.ref 45), some (.int (Int32.ofNat b)), some (.int set), some (.int (Int32.ofNat s)), some (.long y4), none, some (.long y6), none, some (.int (Int32.ofNat (x + 1))), some (.long (y6 <<< ((Int32.ofNat x).toInt64 &&& 63))), none] [] am_C0 h o g Q T else if lg_cmp ((y6 <<< ((Int32.ofNat x).toInt64 &&& 63)) &&& y4) (Int64.ofNat 0) = 0 then am_X L xs d 92 0 [some (.ref 45), some (.int (Int32.ofNat b)), some (.int set), some (.int (Int32.ofNat (s + 1))), some (.long (y4 ||| (y6 <<< ((Int32.ofNat x).toInt64 &&& 63)))), none, none, none, none, none, none] [] am_C0 (am_set h 48 s (Int32.ofNat x)) o g (fun w h' o' g' => am_X L xs (d + 1) 92 136 [some (.ref 45), some (.int (Int32.ofNat b)), some (.int set), some (.int (Int32.ofNat s)), some (.long y4), none, some (.long y6), none, some (.int (Int32.ofNat x)), some (.long (y6 <<< ((Int32.ofNat x).toInt64 &&& 63))), none] (w.toList ++ []) am_C0 h' o' g' Q T) T else am_X L xs (d + 1) 92 61 [some (.ref 45), some (.int (Int32.ofNat b)), some (.int set), some (.int (Int32.ofNat s)), some (.long y4), none, some (.long y6), none, some (.int (Int32.ofNat (x + 1))), some (.long (y6 <<< ((Int32.ofNat x).toInt64 &&& 63))), none] [] am_C0 h o g Q T)) : am_X L xs (d + 1) 92 61 [some (.ref 45), some (.int (Int32.ofNat b)), some (.int set), some (.int (Int32.ofNat s)), some (.long y4), none, some (.long y6), none, some (.int (Int32.ofNat x)), q9, q10] [] am_C0 h o g Q T := by
  by_cases c0 : h 12 2 < Int32.ofNat x
  · rw [if_pos c0] at H
    exact sm_92_61l (am_ift c0 H)
  rw [if_neg c0] at H
  have hx3 : x < 3 := by
    apply Classical.byContradiction
    intro hc
    have : x = 3 := by omega
    subst this
    apply c0
    show h 12 2 < 3
    grind
  obtain ⟨i1, i2⟩ := i3_ix hb hx3
  have i5 : am_ix (Int32.ofNat s) 5 := ix_n hs (by decide)
  have e : s = 0 ∨ s = 1 ∨ s = 2 ∨ s = 3 ∨ s = 4 := by omega
  rw [← nz_succ, ← nz_succ] at H
  rcases e with e | e | e | e | e <;> subst e
  · exact sm_92_61l (am_iff c0 ⟨i5, am_ift rfl ⟨i1, by rw [i2]; exact H⟩⟩)
  · exact sm_92_61l (am_iff c0 ⟨i5, am_iff (by decide) (am_ift rfl ⟨i1, by rw [i2]; exact H⟩)⟩)
  · exact sm_92_61l (am_iff c0 ⟨i5, am_iff (by decide) (am_iff (by decide) (am_ift rfl ⟨i1, by rw [i2]; exact H⟩))⟩)
  · exact sm_92_61l (am_iff c0 ⟨i5, am_iff (by decide) (am_iff (by decide) (am_iff (by decide) (am_ift rfl ⟨i1, by rw [i2]; exact H⟩)))⟩)
  · exact sm_92_61l (am_iff c0 ⟨i5, am_iff (by decide) (am_iff (by decide) (am_iff (by decide) (am_iff (by decide) (am_ift rfl ⟨i1, by rw [i2]; exact H⟩))))⟩)
theorem sm_86_34u {s b x : Nat} {day v : Int32} (hs : s < 5) (hb : b < 5) (hx : x ≤ 3) (hw : ¬ 2 < h 12 2) (M : mv 1 60 [some (.ref 3), some (.int (Int32.ofNat b)), some (.int (h 6 s + Int32.ofNat x)), some (.int (h 7 s)), some (.int day), none, none, none] h (some (.int v)) h) (H : (if h 12 2 < Int32.ofNat x then am_X L xs (d + 2) 86 20 [some (.ref 45), some (.int day), some (.int (Int32.ofNat s)), some (.int (Int32.ofNat (b + 1))), some (.int (Int32.ofNat x))] [] am_C0 h o g Q T else am_X L xs (d + 2) 86 34 [some (.ref 45), some (.int day), some (.int (Int32.ofNat s)), some (.int (Int32.ofNat b)), some (.int (Int32.ofNat (x + 1)))] [] am_C0 (am_set h (50 + s) (3 * b + x) v) o g Q T)) : am_X L xs (d + 2) 86 34 [some (.ref 45), some (.int day), some (.int (Int32.ofNat s)), some (.int (Int32.ofNat b)), some (.int (Int32.ofNat x))] [] am_C0 h o g Q T := by
  by_cases c0 : h 12 2 < Int32.ofNat x
  · rw [if_pos c0, ← nz_succ] at H
    exact sm_86_34 (am_ift c0 H)
  rw [if_neg c0] at H
  have hx3 : x < 3 := by
    apply Classical.byContradiction
    intro hc
    have : x = 3 := by omega
    subst this
    apply c0
    show h 12 2 < 3
    grind
  obtain ⟨i1, i2⟩ := i3_ix hb hx3
  have i5 : am_ix (Int32.ofNat s) 5 := ix_n hs (by decide)
  have e : s = 0 ∨ s = 1 ∨ s = 2 ∨ s = 3 ∨ s = 4 := by omega
  rw [← nz_succ] at H
  rcases e with e | e | e | e | e <;> subst e
  · exact sm_86_34 (am_iff c0 (am_ift rfl ⟨i5, M.use (sm_86_90 ⟨i1, by rw [i2]; exact H⟩)⟩))
  · exact sm_86_34 (am_iff c0 (am_iff (by decide) (am_ift rfl ⟨i5, M.use (sm_86_90_51 ⟨i1, by rw [i2]; exact H⟩)⟩)))
  · exact sm_86_34 (am_iff c0 (am_iff (by decide) (am_iff (by decide) (am_ift rfl ⟨i5, M.use (sm_86_90_52 ⟨i1, by rw [i2]; exact H⟩)⟩))))
  · exact sm_86_34 (am_iff c0 (am_iff (by decide) (am_iff (by decide) (am_iff (by decide) (am_ift rfl ⟨i5, M.use (sm_86_90_53 ⟨i1, by rw [i2]; exact H⟩)⟩)))))
  · exact sm_86_34 (am_iff c0 (am_iff (by decide) (am_iff (by decide) (am_iff (by decide) (am_iff (by decide) (am_ift rfl ⟨i5, M.use (sm_86_90_54 ⟨i1, by rw [i2]; exact H⟩)⟩))))))
