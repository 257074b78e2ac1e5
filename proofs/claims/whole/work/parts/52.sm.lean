/-! ===== what the methods do, piece by piece (written by wip/gen/gen_wp.py) ===== -/
variable {L : Nat} {xs : Nat → Int32} {d : Nat} {h : am_M} {o : am_L} {g : Nat} {Q : Option Value → am_M → am_L → Nat → Prop} {T : Nat → am_M → am_L → Nat → Prop}
theorem sm_0_23 {x4 : Int32} {q5 q6 : Option Value} (hq5 : am_nl q5 = true) (hq6 : am_nl q6 = true) (H : (if ((Int32.ofNat L) - 7) < x4 then Q (some (.int 1)) h o g else (am_ix x4 L ∧ (if ((xs x4.toNatClampNeg) &&& 31) = 0 then (am_ix (x4 + 1) L ∧ (am_ix (x4 + 2) L ∧ (am_ix (x4 + 3) L ∧ (am_ix (x4 + 4) L ∧ (am_ix (x4 + 5) L ∧ am_X L xs d 8 0 [some (.ref 0), some (.int (xs ((x4 + 1).toNatClampNeg))), some (.int (xs ((x4 + 2).toNatClampNeg))), some (.int (xs ((x4 + 3).toNatClampNeg))), some (.int (xs ((x4 + 4).toNatClampNeg))), some (.int (xs ((x4 + 5).toNatClampNeg)))] [] am_C0 h o g (fun w h' o' g' => am_X L xs (d + 1) 0 194 [some (.ref am_scr), some (.ref 0), some (.ref 64), some (.ref 108), some (.int x4), q5, q6] (w.toList ++ []) am_C0 h' o' g' Q T) T))))) else (if ((xs x4.toNatClampNeg) &&& 31) = 1 then (am_ix (x4 + 1) L ∧ am_X L xs d 23 0 [some (.ref 0), some (.int (xs ((x4 + 1).toNatClampNeg))), some (.ref 108), none] [] am_C0 h o g (fun w h' o' g' => am_X L xs (d + 1) 0 244 [some (.ref am_scr), some (.ref 0), some (.ref 64), some (.ref 108), some (.int x4), q5, q6] (w.toList ++ []) am_C0 h' o' g' Q T) T) else (if ((xs x4.toNatClampNeg) &&& 31) = 2 then am_X L xs d 11 0 [some (.ref 0)] [] am_C0 h o g (fun w h' o' g' => am_X L xs (d + 1) 0 293 [some (.ref am_scr), some (.ref 0), some (.ref 64), some (.ref 108), some (.int x4), q5, q6] (w.toList ++ []) am_C0 h' o' g' Q T) T else (if ((xs x4.toNatClampNeg) &&& 31) = 3 then (am_ix (x4 + 1) L ∧ am_X L xs d 41 0 [some (.ref 0), some (.int (xs ((x4 + 1).toNatClampNeg))), some (.ref 108), none] [] am_C0 h o g (fun w h' o' g' => am_X L xs (d + 1) 0 313 [some (.ref am_scr), some (.ref 0), some (.ref 64), some (.ref 108), some (.int x4), q5, q6] (w.toList ++ []) am_C0 h' o' g' Q T) T) else (if ((xs x4.toNatClampNeg) &&& 31) = 4 then (am_ix (x4 + 1) L ∧ (am_ix (x4 + 2) L ∧ am_X L xs d 43 0 [some (.ref 0), some (.int (xs ((x4 + 1).toNatClampNeg))), some (.int (xs ((x4 + 2).toNatClampNeg))), some (.ref 108), none] [] am_C0 h o g (fun w h' o' g' => am_X L xs (d + 1) 0 375 [some (.ref am_scr), some (.ref 0), some (.ref 64), some (.ref 108), some (.int x4), q5, q6] (w.toList ++ []) am_C0 h' o' g' Q T) T)) else (if ((xs x4.toNatClampNeg) &&& 31) = 5 then (am_ix (x4 + 1) L ∧ (am_ix (x4 + 2) L ∧ am_X L xs d 48 0 [some (.ref 0), some (.int (xs ((x4 + 1).toNatClampNeg))), some (.int (xs ((x4 + 2).toNatClampNeg))), some (.ref 108), none] [] am_C0 h o g (fun w h' o' g' => am_X L xs (d + 1) 0 443 [some (.ref am_scr), some (.ref 0), some (.ref 64), some (.ref 108), some (.int x4), q5, q6] (w.toList ++ []) am_C0 h' o' g' Q T) T)) else (if ((xs x4.toNatClampNeg) &&& 31) = 6 then (am_ix (x4 + 1) L ∧ (am_ix (x4 + 2) L ∧ (am_ix (x4 + 3) L ∧ am_X L xs d 55 0 [some (.ref 0), some (.int (xs ((x4 + 1).toNatClampNeg))), some (.int (xs ((x4 + 2).toNatClampNeg))), some (.int (xs ((x4 + 3).toNatClampNeg))), some (.ref 108), none] [] am_C0 h o g (fun w h' o' g' => am_X L xs (d + 1) 0 517 [some (.ref am_scr), some (.ref 0), some (.ref 64), some (.ref 108), some (.int x4), q5, q6] (w.toList ++ []) am_C0 h' o' g' Q T) T))) else (if ((xs x4.toNatClampNeg) &&& 31) = 7 then (am_ix (x4 + 1) L ∧ (am_ix (x4 + 2) L ∧ am_X L xs d 62 0 [some (.ref 0), some (.int (xs ((x4 + 1).toNatClampNeg))), some (.int (xs ((x4 + 2).toNatClampNeg))), some (.ref 108), none] [] am_C0 h o g (fun w h' o' g' => am_X L xs (d + 1) 0 591 [some (.ref am_scr), some (.ref 0), some (.ref 64), some (.ref 108), some (.int x4), q5, q6] (w.toList ++ []) am_C0 h' o' g' Q T) T)) else (if ((xs x4.toNatClampNeg) &&& 31) = 8 then (am_ix (x4 + 1) L ∧ (am_ix (x4 + 2) L ∧ (am_ix (x4 + 3) L ∧ (am_ix (x4 + 4) L ∧ (if (xs ((x4 + 4).toNatClampNeg)) = 0 then am_X L xs d 64 0 [some (.ref 0), some (.int (xs ((x4 + 1).toNatClampNeg))), some (.int (xs ((x4 + 2).toNatClampNeg))), some (.int (xs ((x4 + 3).toNatClampNeg))), some (.int 0), some (.ref 108), none] [] am_C0 h o g (fun w h' o' g' => am_X L xs (d + 1) 0 686 [some (.ref am_scr), some (.ref 0), some (.ref 64), some (.ref 108), some (.int x4), q5, q6] (w.toList ++ []) am_C0 h' o' g' Q T) T else am_X L xs d 64 0 [some (.ref 0), some (.int (xs ((x4 + 1).toNatClampNeg))), some (.int (xs ((x4 + 2).toNatClampNeg))), some (.int (xs ((x4 + 3).toNatClampNeg))), some (.int 1), some (.ref 108), none] [] am_C0 h o g (fun w h' o' g' => am_X L xs (d + 1) 0 686 [some (.ref am_scr), some (.ref 0), some (.ref 64), some (.ref 108), some (.int x4), q5, q6] (w.toList ++ []) am_C0 h' o' g' Q T) T))))) else (if ((xs x4.toNatClampNeg) &&& 31) = 9 then (am_ix (x4 + 1) L ∧ (am_ix (x4 + 2) L ∧ (am_ix (x4 + 3) L ∧ (am_ix (x4 + 4) L ∧ (am_ix (x4 + 5) L ∧ (if (xs ((x4 + 5).toNatClampNeg)) = 0 then (am_ix (x4 + 6) L ∧ am_X L xs d 71 0 [some (.ref 0), some (.int (xs ((x4 + 1).toNatClampNeg))), some (.int (xs ((x4 + 2).toNatClampNeg))), some (.int (xs ((x4 + 3).toNatClampNeg))), some (.int (xs ((x4 + 4).toNatClampNeg))), some (.int 0), some (.int (xs ((x4 + 6).toNatClampNeg))), some (.ref 108), none] [] am_C0 h o g (fun w h' o' g' => am_X L xs (d + 1) 0 807 [some (.ref am_scr), some (.ref 0), some (.ref 64), some (.ref 108), some (.int x4), q5, q6] (w.toList ++ []) am_C0 h' o' g' Q T) T) else (am_ix (x4 + 6) L ∧ am_X L xs d 71 0 [some (.ref 0), some (.int (xs ((x4 + 1).toNatClampNeg))), some (.int (xs ((x4 + 2).toNatClampNeg))), some (.int (xs ((x4 + 3).toNatClampNeg))), some (.int (xs ((x4 + 4).toNatClampNeg))), some (.int 1), some (.int (xs ((x4 + 6).toNatClampNeg))), some (.ref 108), none] [] am_C0 h o g (fun w h' o' g' => am_X L xs (d + 1) 0 807 [some (.ref am_scr), some (.ref 0), some (.ref 64), some (.ref 108), some (.int x4), q5, q6] (w.toList ++ []) am_C0 h' o' g' Q T) T))))))) else (if ((xs x4.toNatClampNeg) &&& 31) = 10 then am_X L xs d 12 0 [some (.ref 0)] [] am_C0 h o g (fun w h' o' g' => am_X L xs (d + 1) 0 895 [some (.ref am_scr), some (.ref 0), some (.ref 64), some (.ref 108), some (.int x4), q5, q6] (w.toList ++ []) am_C0 h' o' g' Q T) T else (if ((xs x4.toNatClampNeg) &&& 31) = 11 then (am_ix (x4 + 1) L ∧ (am_ix (x4 + 2) L ∧ (am_ix (x4 + 3) L ∧ (am_ix (x4 + 4) L ∧ am_X L xs d 73 0 [some (.ref 0), some (.int (xs ((x4 + 1).toNatClampNeg))), some (.int (xs ((x4 + 2).toNatClampNeg))), some (.int (xs ((x4 + 3).toNatClampNeg))), some (.int (xs ((x4 + 4).toNatClampNeg))), some (.ref 108), none] [] am_C0 h o g (fun w h' o' g' => am_X L xs (d + 1) 0 933 [some (.ref am_scr), some (.ref 0), some (.ref 64), some (.ref 108), some (.int x4), q5, q6] (w.toList ++ []) am_C0 h' o' g' Q T) T)))) else (if ((xs x4.toNatClampNeg) &&& 31) = 12 then am_X L xs d 13 0 [some (.ref 0), none, none, none] [] am_C0 h o g (fun w h' o' g' => am_X L xs (d + 1) 0 1000 [some (.ref am_scr), some (.ref 0), some (.ref 64), some (.ref 108), some (.int x4), q5, q6] (w.toList ++ []) am_C0 h' o' g' Q T) T else (if ((xs x4.toNatClampNeg) &&& 31) = 13 then (am_ix (x4 + 1) L ∧ (am_ix (x4 + 2) L ∧ (am_ix (x4 + 3) L ∧ (am_ix (x4 + 4) L ∧ (am_ix (x4 + 5) L ∧ (am_ix (x4 + 6) L ∧ am_X L xs d 78 0 [some (.ref 0), some (.int (xs ((x4 + 1).toNatClampNeg))), some (.int (xs ((x4 + 2).toNatClampNeg))), some (.int (xs ((x4 + 3).toNatClampNeg))), some (.int (xs ((x4 + 4).toNatClampNeg))), some (.int (xs ((x4 + 5).toNatClampNeg))), some (.int (xs ((x4 + 6).toNatClampNeg))), some (.ref 108), none] [] am_C0 h o g (fun w h' o' g' => am_X L xs (d + 1) 0 1051 [some (.ref am_scr), some (.ref 0), some (.ref 64), some (.ref 108), some (.int x4), q5, q6] (w.toList ++ []) am_C0 h' o' g' Q T) T)))))) else (if ((xs x4.toNatClampNeg) &&& 31) = 14 then (am_ix (x4 + 1) L ∧ (am_ix (x4 + 2) L ∧ am_X L xs d 83 0 [some (.ref 0), some (.int (xs ((x4 + 1).toNatClampNeg))), some (.int (xs ((x4 + 2).toNatClampNeg))), some (.ref 108), none] [] am_C0 h o g (fun w h' o' g' => am_X L xs (d + 1) 0 1151 [some (.ref am_scr), some (.ref 0), some (.ref 64), some (.ref 108), some (.int x4), q5, q6] (w.toList ++ []) am_C0 h' o' g' Q T) T)) else (if ((xs x4.toNatClampNeg) &&& 31) = 15 then (am_ix (x4 + 1) L ∧ (am_ix (x4 + 2) L ∧ am_X L xs d 94 0 [some (.ref 0), some (.int (xs ((x4 + 1).toNatClampNeg))), some (.int (xs ((x4 + 2).toNatClampNeg))), some (.ref 108), none] [] am_C0 h o g (fun w h' o' g' => am_X L xs (d + 1) 0 1219 [some (.ref am_scr), some (.ref 0), some (.ref 64), some (.ref 108), some (.int x4), q5, q6] (w.toList ++ []) am_C0 h' o' g' Q T) T)) else (if ((xs x4.toNatClampNeg) &&& 31) = 16 then (am_ix (x4 + 1) L ∧ (am_ix (x4 + 2) L ∧ (am_ix (x4 + 3) L ∧ (am_ix (x4 + 4) L ∧ am_X L xs d 96 0 [some (.ref 0), some (.int (xs ((x4 + 1).toNatClampNeg))), some (.int (xs ((x4 + 2).toNatClampNeg))), some (.int (xs ((x4 + 3).toNatClampNeg))), some (.int (xs ((x4 + 4).toNatClampNeg))), some (.ref 108), none] [] am_C0 h o g (fun w h' o' g' => am_X L xs (d + 1) 0 1299 [some (.ref am_scr), some (.ref 0), some (.ref 64), some (.ref 108), some (.int x4), q5, q6] (w.toList ++ []) am_C0 h' o' g' Q T) T)))) else (if ((xs x4.toNatClampNeg) &&& 31) = 17 then (am_ix (x4 + 1) L ∧ (am_ix (x4 + 2) L ∧ (am_ix (x4 + 3) L ∧ am_X L xs d 102 0 [some (.ref 0), some (.int (xs ((x4 + 1).toNatClampNeg))), some (.int (xs ((x4 + 2).toNatClampNeg))), some (.int (xs ((x4 + 3).toNatClampNeg))), some (.ref 108), none] [] am_C0 h o g (fun w h' o' g' => am_X L xs (d + 1) 0 1385 [some (.ref am_scr), some (.ref 0), some (.ref 64), some (.ref 108), some (.int x4), q5, q6] (w.toList ++ []) am_C0 h' o' g' Q T) T))) else (if ((xs x4.toNatClampNeg) &&& 31) = 18 then (am_ix (x4 + 1) L ∧ (am_ix (x4 + 2) L ∧ am_X L xs d 107 0 [some (.ref 0), some (.int (xs ((x4 + 1).toNatClampNeg))), some (.int (xs ((x4 + 2).toNatClampNeg))), some (.ref 108), none] [] am_C0 h o g (fun w h' o' g' => am_X L xs (d + 1) 0 1459 [some (.ref am_scr), some (.ref 0), some (.ref 64), some (.ref 108), some (.int x4), q5, q6] (w.toList ++ []) am_C0 h' o' g' Q T) T)) else (if ((xs x4.toNatClampNeg) &&& 31) = 19 then (am_ix (x4 + 1) L ∧ (am_ix (x4 + 2) L ∧ (am_ix (x4 + 3) L ∧ am_X L xs d 109 0 [some (.ref 0), some (.int (xs ((x4 + 1).toNatClampNeg))), some (.int (xs ((x4 + 2).toNatClampNeg))), some (.int (xs ((x4 + 3).toNatClampNeg))), some (.ref 108), none] [] am_C0 h o g (fun w h' o' g' => am_X L xs (d + 1) 0 1533 [some (.ref am_scr), some (.ref 0), some (.ref 64), some (.ref 108), some (.int x4), q5, q6] (w.toList ++ []) am_C0 h' o' g' Q T) T))) else (if ((xs x4.toNatClampNeg) &&& 31) = 20 then (am_ix (x4 + 1) L ∧ (am_ix (x4 + 2) L ∧ (am_ix (x4 + 3) L ∧ am_X L xs d 111 0 [some (.ref 0), some (.int (xs ((x4 + 1).toNatClampNeg))), some (.int (xs ((x4 + 2).toNatClampNeg))), some (.int (xs ((x4 + 3).toNatClampNeg))), some (.ref 108), none] [] am_C0 h o g (fun w h' o' g' => am_X L xs (d + 1) 0 1613 [some (.ref am_scr), some (.ref 0), some (.ref 64), some (.ref 108), some (.int x4), q5, q6] (w.toList ++ []) am_C0 h' o' g' Q T) T))) else (if ((xs x4.toNatClampNeg) &&& 31) = 21 then (am_ix (x4 + 1) L ∧ (am_ix (x4 + 2) L ∧ (am_ix (x4 + 3) L ∧ (am_ix (x4 + 4) L ∧ (am_ix (x4 + 5) L ∧ (am_ix (x4 + 6) L ∧ am_X L xs d 113 0 [some (.ref 0), some (.int (xs ((x4 + 1).toNatClampNeg))), some (.int (xs ((x4 + 2).toNatClampNeg))), some (.int (xs ((x4 + 3).toNatClampNeg))), some (.int (xs ((x4 + 4).toNatClampNeg))), some (.int (xs ((x4 + 5).toNatClampNeg))), some (.int (xs ((x4 + 6).toNatClampNeg))), some (.ref 108), none] [] am_C0 h o g (fun w h' o' g' => am_X L xs (d + 1) 0 1712 [some (.ref am_scr), some (.ref 0), some (.ref 64), some (.ref 108), some (.int x4), q5, q6] (w.toList ++ []) am_C0 h' o' g' Q T) T)))))) else (if ((xs x4.toNatClampNeg) &&& 31) = 22 then (am_ix (x4 + 1) L ∧ (am_ix (x4 + 2) L ∧ (am_ix (x4 + 3) L ∧ am_X L xs d 118 0 [some (.ref 0), some (.int (xs ((x4 + 1).toNatClampNeg))), some (.int (xs ((x4 + 2).toNatClampNeg))), some (.int (xs ((x4 + 3).toNatClampNeg))), some (.ref 108), none] [] am_C0 h o g (fun w h' o' g' => am_X L xs (d + 1) 0 1811 [some (.ref am_scr), some (.ref 0), some (.ref 64), some (.ref 108), some (.int x4), q5, q6] (w.toList ++ []) am_C0 h' o' g' Q T) T))) else (if ((xs x4.toNatClampNeg) &&& 31) = 23 then (am_ix (x4 + 1) L ∧ am_X L xs d 121 0 [some (.ref 0), some (.int (xs ((x4 + 1).toNatClampNeg))), some (.ref 108), none] [] am_C0 h o g (fun w h' o' g' => am_X L xs (d + 1) 0 1886 [some (.ref am_scr), some (.ref 0), some (.ref 64), some (.ref 108), some (.int x4), q5, q6] (w.toList ++ []) am_C0 h' o' g' Q T) T) else (if ((xs x4.toNatClampNeg) &&& 31) = 24 then am_X L xs d 20 0 [some (.ref 0)] [] am_C0 h o g (fun w h' o' g' => am_X L xs (d + 1) 0 1935 [some (.ref am_scr), some (.ref 0), some (.ref 64), some (.ref 108), some (.int x4), q5, q6] (w.toList ++ []) am_C0 h' o' g' Q T) T else (if ((xs x4.toNatClampNeg) &&& 31) = 25 then am_X L xs d 22 0 [some (.ref 0)] [] am_C0 h o g (fun w h' o' g' => am_X L xs (d + 1) 0 1946 [some (.ref am_scr), some (.ref 0), some (.ref 64), some (.ref 108), some (.int x4), q5, q6] (w.toList ++ []) am_C0 h' o' g' Q T) T else am_X L xs (d + 1) 0 23 [some (.ref am_scr), some (.ref 0), some (.ref 64), some (.ref 108), some (.int (x4 + 7)), q5, q6] [] am_C0 h o g Q T))))))))))))))))))))))))))))) : am_X L xs (d + 1) 0 23 [some (.ref am_scr), some (.ref 0), some (.ref 64), some (.ref 108), some (.int x4), q5, q6] [] am_C0 h o g Q T := by
  refine xo_1 rfl rfl ?_
  refine xo_2 rfl rfl ?_
  refine xo_27s rfl ?_
  refine xo_0 rfl ?_
  refine xo_7 rfl rfl ?_
  refine xo_11gt rfl (am_sp ?_ ?_ H)
  · intro hc1 H
    refine xo_0 rfl ?_
    refine xo_42 rfl rfl ?_
    exact H
  · intro hc1 H
    refine xo_2 rfl rfl ?_
    refine xo_1 rfl rfl ?_
    obtain ⟨hg2, H⟩ := H
    refine xo_17s rfl hg2 ?_
    refine xo_0 rfl ?_
    refine xo_7 rfl rfl ?_
    by_cases hc3 : ((xs x4.toNatClampNeg) &&& 31) = 0
    · rw [if_pos hc3] at H
      refine xo_52 (t := 160) rfl (by rw [hc3]; rfl) ?_
      refine xo_2 rfl rfl ?_
      refine xo_2 rfl rfl ?_
      refine xo_1 rfl rfl ?_
      refine xo_0 rfl ?_
      refine xo_7 rfl rfl ?_
      obtain ⟨hg4, H⟩ := H
      refine xo_17s rfl hg4 ?_
      refine xo_2 rfl rfl ?_
      refine xo_1 rfl rfl ?_
      refine xo_0 rfl ?_
      refine xo_7 rfl rfl ?_
      obtain ⟨hg5, H⟩ := H
      refine xo_17s rfl hg5 ?_
      refine xo_2 rfl rfl ?_
      refine xo_1 rfl rfl ?_
      refine xo_0 rfl ?_
      refine xo_7 rfl rfl ?_
      obtain ⟨hg6, H⟩ := H
      refine xo_17s rfl hg6 ?_
      refine xo_2 rfl rfl ?_
      refine xo_1 rfl rfl ?_
      refine xo_0 rfl ?_
      refine xo_7 rfl rfl ?_
      obtain ⟨hg7, H⟩ := H
      refine xo_17s rfl hg7 ?_
      refine xo_2 rfl rfl ?_
      refine xo_1 rfl rfl ?_
      refine xo_0 rfl ?_
      refine xo_7 rfl rfl ?_
      obtain ⟨hg8, H⟩ := H
      refine xo_17s rfl hg8 ?_
      refine cl_8_0 rfl hd_0 rfl ?_
      exact H
    · rw [if_neg hc3] at H
      by_cases hc9 : ((xs x4.toNatClampNeg) &&& 31) = 1
      · rw [if_pos hc9] at H
        refine xo_52 (t := 233) rfl (by rw [hc9]; rfl) ?_
        refine xo_2 rfl rfl ?_
        refine xo_2 rfl rfl ?_
        refine xo_1 rfl rfl ?_
        refine xo_0 rfl ?_
        refine xo_7 rfl rfl ?_
        obtain ⟨hg10, H⟩ := H
        refine xo_17s rfl hg10 ?_
        refine xo_2 rfl rfl ?_
        refine cl_23_0_108 rfl hd_0 rfl ?_
        exact H
      · rw [if_neg hc9] at H
        by_cases hc11 : ((xs x4.toNatClampNeg) &&& 31) = 2
        · rw [if_pos hc11] at H
          refine xo_52 (t := 289) rfl (by rw [hc11]; rfl) ?_
          refine xo_2 rfl rfl ?_
          refine cl_11_0 rfl hd_0 rfl ?_
          exact H
        · rw [if_neg hc11] at H
          by_cases hc12 : ((xs x4.toNatClampNeg) &&& 31) = 3
          · rw [if_pos hc12] at H
            refine xo_52 (t := 302) rfl (by rw [hc12]; rfl) ?_
            refine xo_2 rfl rfl ?_
            refine xo_2 rfl rfl ?_
            refine xo_1 rfl rfl ?_
            refine xo_0 rfl ?_
            refine xo_7 rfl rfl ?_
            obtain ⟨hg13, H⟩ := H
            refine xo_17s rfl hg13 ?_
            refine xo_2 rfl rfl ?_
            refine cl_41_0_108 rfl hd_0 rfl ?_
            exact H
          · rw [if_neg hc12] at H
            by_cases hc14 : ((xs x4.toNatClampNeg) &&& 31) = 4
            · rw [if_pos hc14] at H
              refine xo_52 (t := 358) rfl (by rw [hc14]; rfl) ?_
              refine xo_2 rfl rfl ?_
              refine xo_2 rfl rfl ?_
              refine xo_1 rfl rfl ?_
              refine xo_0 rfl ?_
              refine xo_7 rfl rfl ?_
              obtain ⟨hg15, H⟩ := H
              refine xo_17s rfl hg15 ?_
              refine xo_2 rfl rfl ?_
              refine xo_1 rfl rfl ?_
              refine xo_0 rfl ?_
              refine xo_7 rfl rfl ?_
              obtain ⟨hg16, H⟩ := H
              refine xo_17s rfl hg16 ?_
              refine xo_2 rfl rfl ?_
              refine cl_43_0_108 rfl hd_0 rfl ?_
              exact H
            · rw [if_neg hc14] at H
              by_cases hc17 : ((xs x4.toNatClampNeg) &&& 31) = 5
              · rw [if_pos hc17] at H
                refine xo_52 (t := 426) rfl (by rw [hc17]; rfl) ?_
                refine xo_2 rfl rfl ?_
                refine xo_2 rfl rfl ?_
                refine xo_1 rfl rfl ?_
                refine xo_0 rfl ?_
                refine xo_7 rfl rfl ?_
                obtain ⟨hg18, H⟩ := H
                refine xo_17s rfl hg18 ?_
                refine xo_2 rfl rfl ?_
                refine xo_1 rfl rfl ?_
                refine xo_0 rfl ?_
                refine xo_7 rfl rfl ?_
                obtain ⟨hg19, H⟩ := H
                refine xo_17s rfl hg19 ?_
                refine xo_2 rfl rfl ?_
                refine cl_48_0_108 rfl hd_0 rfl ?_
                exact H
              · rw [if_neg hc17] at H
                by_cases hc20 : ((xs x4.toNatClampNeg) &&& 31) = 6
                · rw [if_pos hc20] at H
                  refine xo_52 (t := 494) rfl (by rw [hc20]; rfl) ?_
                  refine xo_2 rfl rfl ?_
                  refine xo_2 rfl rfl ?_
                  refine xo_1 rfl rfl ?_
                  refine xo_0 rfl ?_
                  refine xo_7 rfl rfl ?_
                  obtain ⟨hg21, H⟩ := H
                  refine xo_17s rfl hg21 ?_
                  refine xo_2 rfl rfl ?_
                  refine xo_1 rfl rfl ?_
                  refine xo_0 rfl ?_
                  refine xo_7 rfl rfl ?_
                  obtain ⟨hg22, H⟩ := H
                  refine xo_17s rfl hg22 ?_
                  refine xo_2 rfl rfl ?_
                  refine xo_1 rfl rfl ?_
                  refine xo_0 rfl ?_
                  refine xo_7 rfl rfl ?_
                  obtain ⟨hg23, H⟩ := H
                  refine xo_17s rfl hg23 ?_
                  refine xo_2 rfl rfl ?_
                  refine cl_55_0_108 rfl hd_0 rfl ?_
                  exact H
                · rw [if_neg hc20] at H
                  by_cases hc24 : ((xs x4.toNatClampNeg) &&& 31) = 7
                  · rw [if_pos hc24] at H
                    refine xo_52 (t := 574) rfl (by rw [hc24]; rfl) ?_
                    refine xo_2 rfl rfl ?_
                    refine xo_2 rfl rfl ?_
                    refine xo_1 rfl rfl ?_
                    refine xo_0 rfl ?_
                    refine xo_7 rfl rfl ?_
                    obtain ⟨hg25, H⟩ := H
                    refine xo_17s rfl hg25 ?_
                    refine xo_2 rfl rfl ?_
                    refine xo_1 rfl rfl ?_
                    refine xo_0 rfl ?_
                    refine xo_7 rfl rfl ?_
                    obtain ⟨hg26, H⟩ := H
                    refine xo_17s rfl hg26 ?_
                    refine xo_2 rfl rfl ?_
                    refine cl_62_0_108 rfl hd_0 rfl ?_
                    exact H
                  · rw [if_neg hc24] at H
                    by_cases hc27 : ((xs x4.toNatClampNeg) &&& 31) = 8
                    · rw [if_pos hc27] at H
                      refine xo_52 (t := 649) rfl (by rw [hc27]; rfl) ?_
                      refine xo_2 rfl rfl ?_
                      refine xo_2 rfl rfl ?_
                      refine xo_1 rfl rfl ?_
                      refine xo_0 rfl ?_
                      refine xo_7 rfl rfl ?_
                      obtain ⟨hg28, H⟩ := H
                      refine xo_17s rfl hg28 ?_
                      refine xo_2 rfl rfl ?_
                      refine xo_1 rfl rfl ?_
                      refine xo_0 rfl ?_
                      refine xo_7 rfl rfl ?_
                      obtain ⟨hg29, H⟩ := H
                      refine xo_17s rfl hg29 ?_
                      refine xo_2 rfl rfl ?_
                      refine xo_1 rfl rfl ?_
                      refine xo_0 rfl ?_
                      refine xo_7 rfl rfl ?_
                      obtain ⟨hg30, H⟩ := H
                      refine xo_17s rfl hg30 ?_
                      refine xo_2 rfl rfl ?_
                      refine xo_1 rfl rfl ?_
                      refine xo_0 rfl ?_
                      refine xo_7 rfl rfl ?_
                      obtain ⟨hg31, H⟩ := H
                      refine xo_17s rfl hg31 ?_
                      refine xo_10eq rfl (am_sp ?_ ?_ H)
                      · intro hc32 H
                        refine xo_0 rfl ?_
                        refine xo_2 rfl rfl ?_
                        refine cl_64_0_108 rfl hd_0 rfl ?_
                        exact H
                      · intro hc32 H
                        refine xo_0 rfl ?_
                        refine xo_12 rfl ?_
                        refine xo_2 rfl rfl ?_
                        refine cl_64_0_108 rfl hd_0 rfl ?_
                        exact H
                    · rw [if_neg hc27] at H
                      by_cases hc33 : ((xs x4.toNatClampNeg) &&& 31) = 9
                      · rw [if_pos hc33] at H
                        refine xo_52 (t := 757) rfl (by rw [hc33]; rfl) ?_
                        refine xo_2 rfl rfl ?_
                        refine xo_2 rfl rfl ?_
                        refine xo_1 rfl rfl ?_
                        refine xo_0 rfl ?_
                        refine xo_7 rfl rfl ?_
                        obtain ⟨hg34, H⟩ := H
                        refine xo_17s rfl hg34 ?_
                        refine xo_2 rfl rfl ?_
                        refine xo_1 rfl rfl ?_
                        refine xo_0 rfl ?_
                        refine xo_7 rfl rfl ?_
                        obtain ⟨hg35, H⟩ := H
                        refine xo_17s rfl hg35 ?_
                        refine xo_2 rfl rfl ?_
                        refine xo_1 rfl rfl ?_
                        refine xo_0 rfl ?_
                        refine xo_7 rfl rfl ?_
                        obtain ⟨hg36, H⟩ := H
                        refine xo_17s rfl hg36 ?_
                        refine xo_2 rfl rfl ?_
                        refine xo_1 rfl rfl ?_
                        refine xo_0 rfl ?_
                        refine xo_7 rfl rfl ?_
                        obtain ⟨hg37, H⟩ := H
                        refine xo_17s rfl hg37 ?_
                        refine xo_2 rfl rfl ?_
                        refine xo_1 rfl rfl ?_
                        refine xo_0 rfl ?_
                        refine xo_7 rfl rfl ?_
                        obtain ⟨hg38, H⟩ := H
                        refine xo_17s rfl hg38 ?_
                        refine xo_10eq rfl (am_sp ?_ ?_ H)
                        · intro hc39 H
                          refine xo_0 rfl ?_
                          refine xo_2 rfl rfl ?_
                          refine xo_1 rfl rfl ?_
                          refine xo_0 rfl ?_
                          refine xo_7 rfl rfl ?_
                          obtain ⟨hg40, H⟩ := H
                          refine xo_17s rfl hg40 ?_
                          refine xo_2 rfl rfl ?_
                          refine cl_71_0_108 rfl hd_0 rfl ?_
                          exact H
                        · intro hc39 H
                          refine xo_0 rfl ?_
                          refine xo_12 rfl ?_
                          refine xo_2 rfl rfl ?_
                          refine xo_1 rfl rfl ?_
                          refine xo_0 rfl ?_
                          refine xo_7 rfl rfl ?_
                          obtain ⟨hg41, H⟩ := H
                          refine xo_17s rfl hg41 ?_
                          refine xo_2 rfl rfl ?_
                          refine cl_71_0_108 rfl hd_0 rfl ?_
                          exact H
                      · rw [if_neg hc33] at H
                        by_cases hc42 : ((xs x4.toNatClampNeg) &&& 31) = 10
                        · rw [if_pos hc42] at H
                          refine xo_52 (t := 891) rfl (by rw [hc42]; rfl) ?_
                          refine xo_2 rfl rfl ?_
                          refine cl_12_0 rfl hd_0 rfl ?_
                          exact H
                        · rw [if_neg hc42] at H
                          by_cases hc43 : ((xs x4.toNatClampNeg) &&& 31) = 11
                          · rw [if_pos hc43] at H
                            refine xo_52 (t := 904) rfl (by rw [hc43]; rfl) ?_
                            refine xo_2 rfl rfl ?_
                            refine xo_2 rfl rfl ?_
                            refine xo_1 rfl rfl ?_
                            refine xo_0 rfl ?_
                            refine xo_7 rfl rfl ?_
                            obtain ⟨hg44, H⟩ := H
                            refine xo_17s rfl hg44 ?_
                            refine xo_2 rfl rfl ?_
                            refine xo_1 rfl rfl ?_
                            refine xo_0 rfl ?_
                            refine xo_7 rfl rfl ?_
                            obtain ⟨hg45, H⟩ := H
                            refine xo_17s rfl hg45 ?_
                            refine xo_2 rfl rfl ?_
                            refine xo_1 rfl rfl ?_
                            refine xo_0 rfl ?_
                            refine xo_7 rfl rfl ?_
                            obtain ⟨hg46, H⟩ := H
                            refine xo_17s rfl hg46 ?_
                            refine xo_2 rfl rfl ?_
                            refine xo_1 rfl rfl ?_
                            refine xo_0 rfl ?_
                            refine xo_7 rfl rfl ?_
                            obtain ⟨hg47, H⟩ := H
                            refine xo_17s rfl hg47 ?_
                            refine xo_2 rfl rfl ?_
                            refine cl_73_0_108 rfl hd_0 rfl ?_
                            exact H
                          · rw [if_neg hc43] at H
                            by_cases hc48 : ((xs x4.toNatClampNeg) &&& 31) = 12
                            · rw [if_pos hc48] at H
                              refine xo_52 (t := 996) rfl (by rw [hc48]; rfl) ?_
                              refine xo_2 rfl rfl ?_
                              refine cl_13_0 rfl hd_0 rfl ?_
                              exact H
                            · rw [if_neg hc48] at H
                              by_cases hc49 : ((xs x4.toNatClampNeg) &&& 31) = 13
                              · rw [if_pos hc49] at H
                                refine xo_52 (t := 1009) rfl (by rw [hc49]; rfl) ?_
                                refine xo_2 rfl rfl ?_
                                refine xo_2 rfl rfl ?_
                                refine xo_1 rfl rfl ?_
                                refine xo_0 rfl ?_
                                refine xo_7 rfl rfl ?_
                                obtain ⟨hg50, H⟩ := H
                                refine xo_17s rfl hg50 ?_
                                refine xo_2 rfl rfl ?_
                                refine xo_1 rfl rfl ?_
                                refine xo_0 rfl ?_
                                refine xo_7 rfl rfl ?_
                                obtain ⟨hg51, H⟩ := H
                                refine xo_17s rfl hg51 ?_
                                refine xo_2 rfl rfl ?_
                                refine xo_1 rfl rfl ?_
                                refine xo_0 rfl ?_
                                refine xo_7 rfl rfl ?_
                                obtain ⟨hg52, H⟩ := H
                                refine xo_17s rfl hg52 ?_
                                refine xo_2 rfl rfl ?_
                                refine xo_1 rfl rfl ?_
                                refine xo_0 rfl ?_
                                refine xo_7 rfl rfl ?_
                                obtain ⟨hg53, H⟩ := H
                                refine xo_17s rfl hg53 ?_
                                refine xo_2 rfl rfl ?_
                                refine xo_1 rfl rfl ?_
                                refine xo_0 rfl ?_
                                refine xo_7 rfl rfl ?_
                                obtain ⟨hg54, H⟩ := H
                                refine xo_17s rfl hg54 ?_
                                refine xo_2 rfl rfl ?_
                                refine xo_1 rfl rfl ?_
                                refine xo_0 rfl ?_
                                refine xo_7 rfl rfl ?_
                                obtain ⟨hg55, H⟩ := H
                                refine xo_17s rfl hg55 ?_
                                refine xo_2 rfl rfl ?_
                                refine cl_78_0_108 rfl hd_0 rfl ?_
                                exact H
                              · rw [if_neg hc49] at H
                                by_cases hc56 : ((xs x4.toNatClampNeg) &&& 31) = 14
                                · rw [if_pos hc56] at H
                                  refine xo_52 (t := 1134) rfl (by rw [hc56]; rfl) ?_
                                  refine xo_2 rfl rfl ?_
                                  refine xo_2 rfl rfl ?_
                                  refine xo_1 rfl rfl ?_
                                  refine xo_0 rfl ?_
                                  refine xo_7 rfl rfl ?_
                                  obtain ⟨hg57, H⟩ := H
                                  refine xo_17s rfl hg57 ?_
                                  refine xo_2 rfl rfl ?_
                                  refine xo_1 rfl rfl ?_
                                  refine xo_0 rfl ?_
                                  refine xo_7 rfl rfl ?_
                                  obtain ⟨hg58, H⟩ := H
                                  refine xo_17s rfl hg58 ?_
                                  refine xo_2 rfl rfl ?_
                                  refine cl_83_0_108 rfl hd_0 rfl ?_
                                  exact H
                                · rw [if_neg hc56] at H
                                  by_cases hc59 : ((xs x4.toNatClampNeg) &&& 31) = 15
                                  · rw [if_pos hc59] at H
                                    refine xo_52 (t := 1202) rfl (by rw [hc59]; rfl) ?_
                                    refine xo_2 rfl rfl ?_
                                    refine xo_2 rfl rfl ?_
                                    refine xo_1 rfl rfl ?_
                                    refine xo_0 rfl ?_
                                    refine xo_7 rfl rfl ?_
                                    obtain ⟨hg60, H⟩ := H
                                    refine xo_17s rfl hg60 ?_
                                    refine xo_2 rfl rfl ?_
                                    refine xo_1 rfl rfl ?_
                                    refine xo_0 rfl ?_
                                    refine xo_7 rfl rfl ?_
                                    obtain ⟨hg61, H⟩ := H
                                    refine xo_17s rfl hg61 ?_
                                    refine xo_2 rfl rfl ?_
                                    refine cl_94_0_108 rfl hd_0 rfl ?_
                                    exact H
                                  · rw [if_neg hc59] at H
                                    by_cases hc62 : ((xs x4.toNatClampNeg) &&& 31) = 16
                                    · rw [if_pos hc62] at H
                                      refine xo_52 (t := 1270) rfl (by rw [hc62]; rfl) ?_
                                      refine xo_2 rfl rfl ?_
                                      refine xo_2 rfl rfl ?_
                                      refine xo_1 rfl rfl ?_
                                      refine xo_0 rfl ?_
                                      refine xo_7 rfl rfl ?_
                                      obtain ⟨hg63, H⟩ := H
                                      refine xo_17s rfl hg63 ?_
                                      refine xo_2 rfl rfl ?_
                                      refine xo_1 rfl rfl ?_
                                      refine xo_0 rfl ?_
                                      refine xo_7 rfl rfl ?_
                                      obtain ⟨hg64, H⟩ := H
                                      refine xo_17s rfl hg64 ?_
                                      refine xo_2 rfl rfl ?_
                                      refine xo_1 rfl rfl ?_
                                      refine xo_0 rfl ?_
                                      refine xo_7 rfl rfl ?_
                                      obtain ⟨hg65, H⟩ := H
                                      refine xo_17s rfl hg65 ?_
                                      refine xo_2 rfl rfl ?_
                                      refine xo_1 rfl rfl ?_
                                      refine xo_0 rfl ?_
                                      refine xo_7 rfl rfl ?_
                                      obtain ⟨hg66, H⟩ := H
                                      refine xo_17s rfl hg66 ?_
                                      refine xo_2 rfl rfl ?_
                                      refine cl_96_0_108 rfl hd_0 rfl ?_
                                      exact H
                                    · rw [if_neg hc62] at H
                                      by_cases hc67 : ((xs x4.toNatClampNeg) &&& 31) = 17
                                      · rw [if_pos hc67] at H
                                        refine xo_52 (t := 1362) rfl (by rw [hc67]; rfl) ?_
                                        refine xo_2 rfl rfl ?_
                                        refine xo_2 rfl rfl ?_
                                        refine xo_1 rfl rfl ?_
                                        refine xo_0 rfl ?_
                                        refine xo_7 rfl rfl ?_
                                        obtain ⟨hg68, H⟩ := H
                                        refine xo_17s rfl hg68 ?_
                                        refine xo_2 rfl rfl ?_
                                        refine xo_1 rfl rfl ?_
                                        refine xo_0 rfl ?_
                                        refine xo_7 rfl rfl ?_
                                        obtain ⟨hg69, H⟩ := H
                                        refine xo_17s rfl hg69 ?_
                                        refine xo_2 rfl rfl ?_
                                        refine xo_1 rfl rfl ?_
                                        refine xo_0 rfl ?_
                                        refine xo_7 rfl rfl ?_
                                        obtain ⟨hg70, H⟩ := H
                                        refine xo_17s rfl hg70 ?_
                                        refine xo_2 rfl rfl ?_
                                        refine cl_102_0_108 rfl hd_0 rfl ?_
                                        exact H
                                      · rw [if_neg hc67] at H
                                        by_cases hc71 : ((xs x4.toNatClampNeg) &&& 31) = 18
                                        · rw [if_pos hc71] at H
                                          refine xo_52 (t := 1442) rfl (by rw [hc71]; rfl) ?_
                                          refine xo_2 rfl rfl ?_
                                          refine xo_2 rfl rfl ?_
                                          refine xo_1 rfl rfl ?_
                                          refine xo_0 rfl ?_
                                          refine xo_7 rfl rfl ?_
                                          obtain ⟨hg72, H⟩ := H
                                          refine xo_17s rfl hg72 ?_
                                          refine xo_2 rfl rfl ?_
                                          refine xo_1 rfl rfl ?_
                                          refine xo_0 rfl ?_
                                          refine xo_7 rfl rfl ?_
                                          obtain ⟨hg73, H⟩ := H
                                          refine xo_17s rfl hg73 ?_
                                          refine xo_2 rfl rfl ?_
                                          refine cl_107_0_108 rfl hd_0 rfl ?_
                                          exact H
                                        · rw [if_neg hc71] at H
                                          by_cases hc74 : ((xs x4.toNatClampNeg) &&& 31) = 19
                                          · rw [if_pos hc74] at H
                                            refine xo_52 (t := 1510) rfl (by rw [hc74]; rfl) ?_
                                            refine xo_2 rfl rfl ?_
                                            refine xo_2 rfl rfl ?_
                                            refine xo_1 rfl rfl ?_
                                            refine xo_0 rfl ?_
                                            refine xo_7 rfl rfl ?_
                                            obtain ⟨hg75, H⟩ := H
                                            refine xo_17s rfl hg75 ?_
                                            refine xo_2 rfl rfl ?_
                                            refine xo_1 rfl rfl ?_
                                            refine xo_0 rfl ?_
                                            refine xo_7 rfl rfl ?_
                                            obtain ⟨hg76, H⟩ := H
                                            refine xo_17s rfl hg76 ?_
                                            refine xo_2 rfl rfl ?_
                                            refine xo_1 rfl rfl ?_
                                            refine xo_0 rfl ?_
                                            refine xo_7 rfl rfl ?_
                                            obtain ⟨hg77, H⟩ := H
                                            refine xo_17s rfl hg77 ?_
                                            refine xo_2 rfl rfl ?_
                                            refine cl_109_0_108 rfl hd_0 rfl ?_
                                            exact H
                                          · rw [if_neg hc74] at H
                                            by_cases hc78 : ((xs x4.toNatClampNeg) &&& 31) = 20
                                            · rw [if_pos hc78] at H
                                              refine xo_52 (t := 1590) rfl (by rw [hc78]; rfl) ?_
                                              refine xo_2 rfl rfl ?_
                                              refine xo_2 rfl rfl ?_
                                              refine xo_1 rfl rfl ?_
                                              refine xo_0 rfl ?_
                                              refine xo_7 rfl rfl ?_
                                              obtain ⟨hg79, H⟩ := H
                                              refine xo_17s rfl hg79 ?_
                                              refine xo_2 rfl rfl ?_
                                              refine xo_1 rfl rfl ?_
                                              refine xo_0 rfl ?_
                                              refine xo_7 rfl rfl ?_
                                              obtain ⟨hg80, H⟩ := H
                                              refine xo_17s rfl hg80 ?_
                                              refine xo_2 rfl rfl ?_
                                              refine xo_1 rfl rfl ?_
                                              refine xo_0 rfl ?_
                                              refine xo_7 rfl rfl ?_
                                              obtain ⟨hg81, H⟩ := H
                                              refine xo_17s rfl hg81 ?_
                                              refine xo_2 rfl rfl ?_
                                              refine cl_111_0_108 rfl hd_0 rfl ?_
                                              exact H
                                            · rw [if_neg hc78] at H
                                              by_cases hc82 : ((xs x4.toNatClampNeg) &&& 31) = 21
                                              · rw [if_pos hc82] at H
                                                refine xo_52 (t := 1670) rfl (by rw [hc82]; rfl) ?_
                                                refine xo_2 rfl rfl ?_
                                                refine xo_2 rfl rfl ?_
                                                refine xo_1 rfl rfl ?_
                                                refine xo_0 rfl ?_
                                                refine xo_7 rfl rfl ?_
                                                obtain ⟨hg83, H⟩ := H
                                                refine xo_17s rfl hg83 ?_
                                                refine xo_2 rfl rfl ?_
                                                refine xo_1 rfl rfl ?_
                                                refine xo_0 rfl ?_
                                                refine xo_7 rfl rfl ?_
                                                obtain ⟨hg84, H⟩ := H
                                                refine xo_17s rfl hg84 ?_
                                                refine xo_2 rfl rfl ?_
                                                refine xo_1 rfl rfl ?_
                                                refine xo_0 rfl ?_
                                                refine xo_7 rfl rfl ?_
                                                obtain ⟨hg85, H⟩ := H
                                                refine xo_17s rfl hg85 ?_
                                                refine xo_2 rfl rfl ?_
                                                refine xo_1 rfl rfl ?_
                                                refine xo_0 rfl ?_
                                                refine xo_7 rfl rfl ?_
                                                obtain ⟨hg86, H⟩ := H
                                                refine xo_17s rfl hg86 ?_
                                                refine xo_2 rfl rfl ?_
                                                refine xo_1 rfl rfl ?_
                                                refine xo_0 rfl ?_
                                                refine xo_7 rfl rfl ?_
                                                obtain ⟨hg87, H⟩ := H
                                                refine xo_17s rfl hg87 ?_
                                                refine xo_2 rfl rfl ?_
                                                refine xo_1 rfl rfl ?_
                                                refine xo_0 rfl ?_
                                                refine xo_7 rfl rfl ?_
                                                obtain ⟨hg88, H⟩ := H
                                                refine xo_17s rfl hg88 ?_
                                                refine xo_2 rfl rfl ?_
                                                refine cl_113_0_108 rfl hd_0 rfl ?_
                                                exact H
                                              · rw [if_neg hc82] at H
                                                by_cases hc89 : ((xs x4.toNatClampNeg) &&& 31) = 22
                                                · rw [if_pos hc89] at H
                                                  refine xo_52 (t := 1788) rfl (by rw [hc89]; rfl) ?_
                                                  refine xo_2 rfl rfl ?_
                                                  refine xo_2 rfl rfl ?_
                                                  refine xo_1 rfl rfl ?_
                                                  refine xo_0 rfl ?_
                                                  refine xo_7 rfl rfl ?_
                                                  obtain ⟨hg90, H⟩ := H
                                                  refine xo_17s rfl hg90 ?_
                                                  refine xo_2 rfl rfl ?_
                                                  refine xo_1 rfl rfl ?_
                                                  refine xo_0 rfl ?_
                                                  refine xo_7 rfl rfl ?_
                                                  obtain ⟨hg91, H⟩ := H
                                                  refine xo_17s rfl hg91 ?_
                                                  refine xo_2 rfl rfl ?_
                                                  refine xo_1 rfl rfl ?_
                                                  refine xo_0 rfl ?_
                                                  refine xo_7 rfl rfl ?_
                                                  obtain ⟨hg92, H⟩ := H
                                                  refine xo_17s rfl hg92 ?_
                                                  refine xo_2 rfl rfl ?_
                                                  refine cl_118_0_108 rfl hd_0 rfl ?_
                                                  exact H
                                                · rw [if_neg hc89] at H
                                                  by_cases hc93 : ((xs x4.toNatClampNeg) &&& 31) = 23
                                                  · rw [if_pos hc93] at H
                                                    refine xo_52 (t := 1875) rfl (by rw [hc93]; rfl) ?_
                                                    refine xo_2 rfl rfl ?_
                                                    refine xo_2 rfl rfl ?_
                                                    refine xo_1 rfl rfl ?_
                                                    refine xo_0 rfl ?_
                                                    refine xo_7 rfl rfl ?_
                                                    obtain ⟨hg94, H⟩ := H
                                                    refine xo_17s rfl hg94 ?_
                                                    refine xo_2 rfl rfl ?_
                                                    refine cl_121_0_108 rfl hd_0 rfl ?_
                                                    exact H
                                                  · rw [if_neg hc93] at H
                                                    by_cases hc95 : ((xs x4.toNatClampNeg) &&& 31) = 24
                                                    · rw [if_pos hc95] at H
                                                      refine xo_52 (t := 1931) rfl (by rw [hc95]; rfl) ?_
                                                      refine xo_2 rfl rfl ?_
                                                      refine cl_20_0 rfl hd_0 rfl ?_
                                                      exact H
                                                    · rw [if_neg hc95] at H
                                                      by_cases hc96 : ((xs x4.toNatClampNeg) &&& 31) = 25
                                                      · rw [if_pos hc96] at H
                                                        refine xo_52 (t := 1942) rfl (by rw [hc96]; rfl) ?_
                                                        refine xo_2 rfl rfl ?_
                                                        refine cl_22_0 rfl hd_0 rfl ?_
                                                        exact H
                                                      · rw [if_neg hc96] at H
                                                        refine xo_52 (t := 1955) rfl ?_ ?_
                                                        · have e0 : ¬ ((xs x4.toNatClampNeg) &&& 31).toInt = 0 := fun e => hc3 (Int32.toInt_inj.mp e)
                                                          have e1 : ¬ ((xs x4.toNatClampNeg) &&& 31).toInt = 1 := fun e => hc9 (Int32.toInt_inj.mp e)
                                                          have e2 : ¬ ((xs x4.toNatClampNeg) &&& 31).toInt = 2 := fun e => hc11 (Int32.toInt_inj.mp e)
                                                          have e3 : ¬ ((xs x4.toNatClampNeg) &&& 31).toInt = 3 := fun e => hc12 (Int32.toInt_inj.mp e)
                                                          have e4 : ¬ ((xs x4.toNatClampNeg) &&& 31).toInt = 4 := fun e => hc14 (Int32.toInt_inj.mp e)
                                                          have e5 : ¬ ((xs x4.toNatClampNeg) &&& 31).toInt = 5 := fun e => hc17 (Int32.toInt_inj.mp e)
                                                          have e6 : ¬ ((xs x4.toNatClampNeg) &&& 31).toInt = 6 := fun e => hc20 (Int32.toInt_inj.mp e)
                                                          have e7 : ¬ ((xs x4.toNatClampNeg) &&& 31).toInt = 7 := fun e => hc24 (Int32.toInt_inj.mp e)
                                                          have e8 : ¬ ((xs x4.toNatClampNeg) &&& 31).toInt = 8 := fun e => hc27 (Int32.toInt_inj.mp e)
                                                          have e9 : ¬ ((xs x4.toNatClampNeg) &&& 31).toInt = 9 := fun e => hc33 (Int32.toInt_inj.mp e)
                                                          have e10 : ¬ ((xs x4.toNatClampNeg) &&& 31).toInt = 10 := fun e => hc42 (Int32.toInt_inj.mp e)
                                                          have e11 : ¬ ((xs x4.toNatClampNeg) &&& 31).toInt = 11 := fun e => hc43 (Int32.toInt_inj.mp e)
                                                          have e12 : ¬ ((xs x4.toNatClampNeg) &&& 31).toInt = 12 := fun e => hc48 (Int32.toInt_inj.mp e)
                                                          have e13 : ¬ ((xs x4.toNatClampNeg) &&& 31).toInt = 13 := fun e => hc49 (Int32.toInt_inj.mp e)
                                                          have e14 : ¬ ((xs x4.toNatClampNeg) &&& 31).toInt = 14 := fun e => hc56 (Int32.toInt_inj.mp e)
                                                          have e15 : ¬ ((xs x4.toNatClampNeg) &&& 31).toInt = 15 := fun e => hc59 (Int32.toInt_inj.mp e)
                                                          have e16 : ¬ ((xs x4.toNatClampNeg) &&& 31).toInt = 16 := fun e => hc62 (Int32.toInt_inj.mp e)
                                                          have e17 : ¬ ((xs x4.toNatClampNeg) &&& 31).toInt = 17 := fun e => hc67 (Int32.toInt_inj.mp e)
                                                          have e18 : ¬ ((xs x4.toNatClampNeg) &&& 31).toInt = 18 := fun e => hc71 (Int32.toInt_inj.mp e)
                                                          have e19 : ¬ ((xs x4.toNatClampNeg) &&& 31).toInt = 19 := fun e => hc74 (Int32.toInt_inj.mp e)
                                                          have e20 : ¬ ((xs x4.toNatClampNeg) &&& 31).toInt = 20 := fun e => hc78 (Int32.toInt_inj.mp e)
                                                          have e21 : ¬ ((xs x4.toNatClampNeg) &&& 31).toInt = 21 := fun e => hc82 (Int32.toInt_inj.mp e)
                                                          have e22 : ¬ ((xs x4.toNatClampNeg) &&& 31).toInt = 22 := fun e => hc89 (Int32.toInt_inj.mp e)
                                                          have e23 : ¬ ((xs x4.toNatClampNeg) &&& 31).toInt = 23 := fun e => hc93 (Int32.toInt_inj.mp e)
                                                          have e24 : ¬ ((xs x4.toNatClampNeg) &&& 31).toInt = 24 := fun e => hc95 (Int32.toInt_inj.mp e)
                                                          have e25 : ¬ ((xs x4.toNatClampNeg) &&& 31).toInt = 25 := fun e => hc96 (Int32.toInt_inj.mp e)
                                                          rw [if_pos (by show ((xs x4.toNatClampNeg) &&& 31).toInt < 0 ∨ 25 < ((xs x4.toNatClampNeg) &&& 31).toInt; omega)]
                                                          rfl
                                                        · refine xo_9 (z := (x4 + 7)) (lv' := [some (.ref am_scr), some (.ref 0), some (.ref 64), some (.ref 108), some (.int (x4 + 7)), q5, q6]) rfl rfl rfl rfl rfl ?_
                                                          refine xo_12 rfl ?_
                                                          exact H
theorem sm_0_194 {x4 : Int32} {q5 : Option Value} {q6 : Option Value} {z0 : Int32} (hq5 : am_nl q5 = true) (hq6 : am_nl q6 = true) (H : (am_ix (x4 + 1) L ∧ (am_ix (x4 + 2) L ∧ (am_ix (x4 + 3) L ∧ (am_ix (x4 + 4) L ∧ (am_ix (x4 + 5) L ∧ am_X L xs d 131 0 [some (.ref 64), some (.int (xs ((x4 + 1).toNatClampNeg))), some (.int (xs ((x4 + 2).toNatClampNeg))), some (.int (xs ((x4 + 3).toNatClampNeg))), some (.int (xs ((x4 + 4).toNatClampNeg))), some (.int (xs ((x4 + 5).toNatClampNeg))), none, none] [] am_C0 h o g (fun w h' o' g' => am_X L xs (d + 1) 0 228 [some (.ref am_scr), some (.ref 0), some (.ref 64), some (.ref 108), some (.int x4), q5, q6] (w.toList ++ [.int z0]) am_C0 h' o' g' Q T) T)))))) : am_X L xs (d + 1) 0 194 [some (.ref am_scr), some (.ref 0), some (.ref 64), some (.ref 108), some (.int x4), q5, q6] [.int z0] am_C0 h o g Q T := by
  refine xo_2 rfl rfl ?_
  refine xo_2 rfl rfl ?_
  refine xo_1 rfl rfl ?_
  refine xo_0 rfl ?_
  refine xo_7 rfl rfl ?_
  obtain ⟨hg1, H⟩ := H
  refine xo_17s rfl hg1 ?_
  refine xo_2 rfl rfl ?_
  refine xo_1 rfl rfl ?_
  refine xo_0 rfl ?_
  refine xo_7 rfl rfl ?_
  obtain ⟨hg2, H⟩ := H
  refine xo_17s rfl hg2 ?_
  refine xo_2 rfl rfl ?_
  refine xo_1 rfl rfl ?_
  refine xo_0 rfl ?_
  refine xo_7 rfl rfl ?_
  obtain ⟨hg3, H⟩ := H
  refine xo_17s rfl hg3 ?_
  refine xo_2 rfl rfl ?_
  refine xo_1 rfl rfl ?_
  refine xo_0 rfl ?_
  refine xo_7 rfl rfl ?_
  obtain ⟨hg4, H⟩ := H
  refine xo_17s rfl hg4 ?_
  refine xo_2 rfl rfl ?_
  refine xo_1 rfl rfl ?_
  refine xo_0 rfl ?_
  refine xo_7 rfl rfl ?_
  obtain ⟨hg5, H⟩ := H
  refine xo_17s rfl hg5 ?_
  refine cl_131_64 rfl hd_0 rfl ?_
  exact H
theorem sm_0_244 {x4 : Int32} {q5 : Option Value} {q6 : Option Value} {z0 : Int32} (hq5 : am_nl q5 = true) (hq6 : am_nl q6 = true) (H : (am_ix (x4 + 1) L ∧ am_X L xs d 132 0 [some (.ref 64), some (.int (xs ((x4 + 1).toNatClampNeg))), none] [] am_C0 h o g (fun w h' o' g' => am_X L xs (d + 1) 0 256 [some (.ref am_scr), some (.ref 0), some (.ref 64), some (.ref 108), some (.int x4), some (.int z0), q6] (w.toList ++ []) am_C0 h' o' g' Q T) T)) : am_X L xs (d + 1) 0 244 [some (.ref am_scr), some (.ref 0), some (.ref 64), some (.ref 108), some (.int x4), q5, q6] [.int z0] am_C0 h o g Q T := by
  refine xo_4 (lv' := [some (.ref am_scr), some (.ref 0), some (.ref 64), some (.ref 108), some (.int x4), some (.int z0), q6]) rfl rfl rfl ?_
  refine xo_2 rfl rfl ?_
  refine xo_2 rfl rfl ?_
  refine xo_1 rfl rfl ?_
  refine xo_0 rfl ?_
  refine xo_7 rfl rfl ?_
  obtain ⟨hg1, H⟩ := H
  refine xo_17s rfl hg1 ?_
  refine cl_132_64 rfl hd_0 rfl ?_
  exact H
theorem sm_0_293 {x4 : Int32} {q5 : Option Value} {q6 : Option Value} {z0 : Int32} (hq5 : am_nl q5 = true) (hq6 : am_nl q6 = true) (H : am_X L xs d 148 0 [some (.ref 64)] [] am_C0 h o g (fun w h' o' g' => am_X L xs (d + 1) 0 297 [some (.ref am_scr), some (.ref 0), some (.ref 64), some (.ref 108), some (.int x4), q5, q6] (w.toList ++ [.int z0]) am_C0 h' o' g' Q T) T) : am_X L xs (d + 1) 0 293 [some (.ref am_scr), some (.ref 0), some (.ref 64), some (.ref 108), some (.int x4), q5, q6] [.int z0] am_C0 h o g Q T := by
  refine xo_2 rfl rfl ?_
  refine cl_148_64 rfl hd_0 rfl ?_
  exact H
theorem sm_0_313 {x4 : Int32} {q5 : Option Value} {q6 : Option Value} {z0 : Int32} (hq5 : am_nl q5 = true) (hq6 : am_nl q6 = true) (H : (am_ix (x4 + 1) L ∧ am_X L xs d 149 0 [some (.ref 64), some (.int (xs ((x4 + 1).toNatClampNeg)))] [] am_C0 h o g (fun w h' o' g' => am_X L xs (d + 1) 0 325 [some (.ref am_scr), some (.ref 0), some (.ref 64), some (.ref 108), some (.int x4), some (.int z0), q6] (w.toList ++ []) am_C0 h' o' g' Q T) T)) : am_X L xs (d + 1) 0 313 [some (.ref am_scr), some (.ref 0), some (.ref 64), some (.ref 108), some (.int x4), q5, q6] [.int z0] am_C0 h o g Q T := by
  refine xo_4 (lv' := [some (.ref am_scr), some (.ref 0), some (.ref 64), some (.ref 108), some (.int x4), some (.int z0), q6]) rfl rfl rfl ?_
  refine xo_2 rfl rfl ?_
  refine xo_2 rfl rfl ?_
  refine xo_1 rfl rfl ?_
  refine xo_0 rfl ?_
  refine xo_7 rfl rfl ?_
  obtain ⟨hg1, H⟩ := H
  refine xo_17s rfl hg1 ?_
  refine cl_149_64 rfl hd_0 rfl ?_
  exact H
theorem sm_0_375 {x4 : Int32} {q5 : Option Value} {q6 : Option Value} {z0 : Int32} (hq5 : am_nl q5 = true) (hq6 : am_nl q6 = true) (H : (am_ix (x4 + 1) L ∧ (am_ix (x4 + 2) L ∧ am_X L xs d 151 0 [some (.ref 64), some (.int (xs ((x4 + 1).toNatClampNeg))), some (.int (xs ((x4 + 2).toNatClampNeg)))] [] am_C0 h o g (fun w h' o' g' => am_X L xs (d + 1) 0 393 [some (.ref am_scr), some (.ref 0), some (.ref 64), some (.ref 108), some (.int x4), some (.int z0), q6] (w.toList ++ []) am_C0 h' o' g' Q T) T))) : am_X L xs (d + 1) 0 375 [some (.ref am_scr), some (.ref 0), some (.ref 64), some (.ref 108), some (.int x4), q5, q6] [.int z0] am_C0 h o g Q T := by
  refine xo_4 (lv' := [some (.ref am_scr), some (.ref 0), some (.ref 64), some (.ref 108), some (.int x4), some (.int z0), q6]) rfl rfl rfl ?_
  refine xo_2 rfl rfl ?_
  refine xo_2 rfl rfl ?_
  refine xo_1 rfl rfl ?_
  refine xo_0 rfl ?_
  refine xo_7 rfl rfl ?_
  obtain ⟨hg1, H⟩ := H
  refine xo_17s rfl hg1 ?_
  refine xo_2 rfl rfl ?_
  refine xo_1 rfl rfl ?_
  refine xo_0 rfl ?_
  refine xo_7 rfl rfl ?_
  obtain ⟨hg2, H⟩ := H
  refine xo_17s rfl hg2 ?_
  refine cl_151_64 rfl hd_0 rfl ?_
  exact H
theorem sm_0_443 {x4 : Int32} {q5 : Option Value} {q6 : Option Value} {z0 : Int32} (hq5 : am_nl q5 = true) (hq6 : am_nl q6 = true) (H : (am_ix (x4 + 1) L ∧ (am_ix (x4 + 2) L ∧ am_X L xs d 156 0 [some (.ref 64), some (.int (xs ((x4 + 1).toNatClampNeg))), some (.int (xs ((x4 + 2).toNatClampNeg))), none, none] [] am_C0 h o g (fun w h' o' g' => am_X L xs (d + 1) 0 461 [some (.ref am_scr), some (.ref 0), some (.ref 64), some (.ref 108), some (.int x4), some (.int z0), q6] (w.toList ++ []) am_C0 h' o' g' Q T) T))) : am_X L xs (d + 1) 0 443 [some (.ref am_scr), some (.ref 0), some (.ref 64), some (.ref 108), some (.int x4), q5, q6] [.int z0] am_C0 h o g Q T := by
  refine xo_4 (lv' := [some (.ref am_scr), some (.ref 0), some (.ref 64), some (.ref 108), some (.int x4), some (.int z0), q6]) rfl rfl rfl ?_
  refine xo_2 rfl rfl ?_
  refine xo_2 rfl rfl ?_
  refine xo_1 rfl rfl ?_
  refine xo_0 rfl ?_
  refine xo_7 rfl rfl ?_
  obtain ⟨hg1, H⟩ := H
  refine xo_17s rfl hg1 ?_
  refine xo_2 rfl rfl ?_
  refine xo_1 rfl rfl ?_
  refine xo_0 rfl ?_
  refine xo_7 rfl rfl ?_
  obtain ⟨hg2, H⟩ := H
  refine xo_17s rfl hg2 ?_
  refine cl_156_64 rfl hd_0 rfl ?_
  exact H
theorem sm_0_517 {x4 : Int32} {q5 : Option Value} {q6 : Option Value} {z0 : Int32} (hq5 : am_nl q5 = true) (hq6 : am_nl q6 = true) (H : (am_ix (x4 + 1) L ∧ (am_ix (x4 + 2) L ∧ (am_ix (x4 + 3) L ∧ am_X L xs d 159 0 [some (.ref 64), some (.int (xs ((x4 + 1).toNatClampNeg))), some (.int (xs ((x4 + 2).toNatClampNeg))), some (.int (xs ((x4 + 3).toNatClampNeg)))] [] am_C0 h o g (fun w h' o' g' => am_X L xs (d + 1) 0 541 [some (.ref am_scr), some (.ref 0), some (.ref 64), some (.ref 108), some (.int x4), some (.int z0), q6] (w.toList ++ []) am_C0 h' o' g' Q T) T)))) : am_X L xs (d + 1) 0 517 [some (.ref am_scr), some (.ref 0), some (.ref 64), some (.ref 108), some (.int x4), q5, q6] [.int z0] am_C0 h o g Q T := by
  refine xo_4 (lv' := [some (.ref am_scr), some (.ref 0), some (.ref 64), some (.ref 108), some (.int x4), some (.int z0), q6]) rfl rfl rfl ?_
  refine xo_2 rfl rfl ?_
  refine xo_2 rfl rfl ?_
  refine xo_1 rfl rfl ?_
  refine xo_0 rfl ?_
  refine xo_7 rfl rfl ?_
  obtain ⟨hg1, H⟩ := H
  refine xo_17s rfl hg1 ?_
  refine xo_2 rfl rfl ?_
  refine xo_1 rfl rfl ?_
  refine xo_0 rfl ?_
  refine xo_7 rfl rfl ?_
  obtain ⟨hg2, H⟩ := H
  refine xo_17s rfl hg2 ?_
  refine xo_2 rfl rfl ?_
  refine xo_1 rfl rfl ?_
  refine xo_0 rfl ?_
  refine xo_7 rfl rfl ?_
  obtain ⟨hg3, H⟩ := H
  refine xo_17s rfl hg3 ?_
  refine cl_159_64 rfl hd_0 rfl ?_
  exact H
theorem sm_0_591 {x4 : Int32} {q5 : Option Value} {q6 : Option Value} {z0 : Int32} (hq5 : am_nl q5 = true) (hq6 : am_nl q6 = true) (H : (am_ix (x4 + 1) L ∧ (am_ix (x4 + 2) L ∧ am_X L xs d 164 0 [some (.ref 64), some (.int (xs ((x4 + 1).toNatClampNeg))), some (.int (xs ((x4 + 2).toNatClampNeg))), none] [] am_C0 h o g (fun w h' o' g' => am_X L xs (d + 1) 0 609 [some (.ref am_scr), some (.ref 0), some (.ref 64), some (.ref 108), some (.int x4), some (.int z0), q6] (w.toList ++ []) am_C0 h' o' g' Q T) T))) : am_X L xs (d + 1) 0 591 [some (.ref am_scr), some (.ref 0), some (.ref 64), some (.ref 108), some (.int x4), q5, q6] [.int z0] am_C0 h o g Q T := by
  refine xo_4 (lv' := [some (.ref am_scr), some (.ref 0), some (.ref 64), some (.ref 108), some (.int x4), some (.int z0), q6]) rfl rfl rfl ?_
  refine xo_2 rfl rfl ?_
  refine xo_2 rfl rfl ?_
  refine xo_1 rfl rfl ?_
  refine xo_0 rfl ?_
  refine xo_7 rfl rfl ?_
  obtain ⟨hg1, H⟩ := H
  refine xo_17s rfl hg1 ?_
  refine xo_2 rfl rfl ?_
  refine xo_1 rfl rfl ?_
  refine xo_0 rfl ?_
  refine xo_7 rfl rfl ?_
  obtain ⟨hg2, H⟩ := H
  refine xo_17s rfl hg2 ?_
  refine cl_164_64 rfl hd_0 rfl ?_
  exact H
theorem sm_0_686 {x4 : Int32} {q5 : Option Value} {q6 : Option Value} {z0 : Int32} (hq5 : am_nl q5 = true) (hq6 : am_nl q6 = true) (H : (am_ix (x4 + 1) L ∧ (am_ix (x4 + 2) L ∧ (am_ix (x4 + 3) L ∧ (am_ix (x4 + 4) L ∧ (if (xs ((x4 + 4).toNatClampNeg)) = 0 then am_X L xs d 165 0 [some (.ref 64), some (.int (xs ((x4 + 1).toNatClampNeg))), some (.int (xs ((x4 + 2).toNatClampNeg))), some (.int (xs ((x4 + 3).toNatClampNeg))), some (.int 0)] [] am_C0 h o g (fun w h' o' g' => am_X L xs (d + 1) 0 724 [some (.ref am_scr), some (.ref 0), some (.ref 64), some (.ref 108), some (.int x4), some (.int z0), q6] (w.toList ++ []) am_C0 h' o' g' Q T) T else am_X L xs d 165 0 [some (.ref 64), some (.int (xs ((x4 + 1).toNatClampNeg))), some (.int (xs ((x4 + 2).toNatClampNeg))), some (.int (xs ((x4 + 3).toNatClampNeg))), some (.int 1)] [] am_C0 h o g (fun w h' o' g' => am_X L xs (d + 1) 0 724 [some (.ref am_scr), some (.ref 0), some (.ref 64), some (.ref 108), some (.int x4), some (.int z0), q6] (w.toList ++ []) am_C0 h' o' g' Q T) T)))))) : am_X L xs (d + 1) 0 686 [some (.ref am_scr), some (.ref 0), some (.ref 64), some (.ref 108), some (.int x4), q5, q6] [.int z0] am_C0 h o g Q T := by
  refine xo_4 (lv' := [some (.ref am_scr), some (.ref 0), some (.ref 64), some (.ref 108), some (.int x4), some (.int z0), q6]) rfl rfl rfl ?_
  refine xo_2 rfl rfl ?_
  refine xo_2 rfl rfl ?_
  refine xo_1 rfl rfl ?_
  refine xo_0 rfl ?_
  refine xo_7 rfl rfl ?_
  obtain ⟨hg1, H⟩ := H
  refine xo_17s rfl hg1 ?_
  refine xo_2 rfl rfl ?_
  refine xo_1 rfl rfl ?_
  refine xo_0 rfl ?_
  refine xo_7 rfl rfl ?_
  obtain ⟨hg2, H⟩ := H
  refine xo_17s rfl hg2 ?_
  refine xo_2 rfl rfl ?_
  refine xo_1 rfl rfl ?_
  refine xo_0 rfl ?_
  refine xo_7 rfl rfl ?_
  obtain ⟨hg3, H⟩ := H
  refine xo_17s rfl hg3 ?_
  refine xo_2 rfl rfl ?_
  refine xo_1 rfl rfl ?_
  refine xo_0 rfl ?_
  refine xo_7 rfl rfl ?_
  obtain ⟨hg4, H⟩ := H
  refine xo_17s rfl hg4 ?_
  refine xo_10eq rfl (am_sp ?_ ?_ H)
  · intro hc5 H
    refine xo_0 rfl ?_
    refine cl_165_64 rfl hd_0 rfl ?_
    exact H
  · intro hc5 H
    refine xo_0 rfl ?_
    refine xo_12 rfl ?_
    refine cl_165_64 rfl hd_0 rfl ?_
    exact H
theorem sm_0_807 {x4 : Int32} {q5 : Option Value} {q6 : Option Value} {z0 : Int32} (hq5 : am_nl q5 = true) (hq6 : am_nl q6 = true) (H : (am_ix (x4 + 1) L ∧ (am_ix (x4 + 2) L ∧ (am_ix (x4 + 3) L ∧ (am_ix (x4 + 4) L ∧ (am_ix (x4 + 5) L ∧ (if (xs ((x4 + 5).toNatClampNeg)) = 0 then (am_ix (x4 + 6) L ∧ am_X L xs d 169 0 [some (.ref 64), some (.int (xs ((x4 + 1).toNatClampNeg))), some (.int (xs ((x4 + 2).toNatClampNeg))), some (.int (xs ((x4 + 3).toNatClampNeg))), some (.int (xs ((x4 + 4).toNatClampNeg))), some (.int 0), some (.int (xs ((x4 + 6).toNatClampNeg)))] [] am_C0 h o g (fun w h' o' g' => am_X L xs (d + 1) 0 858 [some (.ref am_scr), some (.ref 0), some (.ref 64), some (.ref 108), some (.int x4), some (.int z0), q6] (w.toList ++ []) am_C0 h' o' g' Q T) T) else (am_ix (x4 + 6) L ∧ am_X L xs d 169 0 [some (.ref 64), some (.int (xs ((x4 + 1).toNatClampNeg))), some (.int (xs ((x4 + 2).toNatClampNeg))), some (.int (xs ((x4 + 3).toNatClampNeg))), some (.int (xs ((x4 + 4).toNatClampNeg))), some (.int 1), some (.int (xs ((x4 + 6).toNatClampNeg)))] [] am_C0 h o g (fun w h' o' g' => am_X L xs (d + 1) 0 858 [some (.ref am_scr), some (.ref 0), some (.ref 64), some (.ref 108), some (.int x4), some (.int z0), q6] (w.toList ++ []) am_C0 h' o' g' Q T) T)))))))) : am_X L xs (d + 1) 0 807 [some (.ref am_scr), some (.ref 0), some (.ref 64), some (.ref 108), some (.int x4), q5, q6] [.int z0] am_C0 h o g Q T := by
  refine xo_4 (lv' := [some (.ref am_scr), some (.ref 0), some (.ref 64), some (.ref 108), some (.int x4), some (.int z0), q6]) rfl rfl rfl ?_
  refine xo_2 rfl rfl ?_
  refine xo_2 rfl rfl ?_
  refine xo_1 rfl rfl ?_
  refine xo_0 rfl ?_
  refine xo_7 rfl rfl ?_
  obtain ⟨hg1, H⟩ := H
  refine xo_17s rfl hg1 ?_
  refine xo_2 rfl rfl ?_
  refine xo_1 rfl rfl ?_
  refine xo_0 rfl ?_
  refine xo_7 rfl rfl ?_
  obtain ⟨hg2, H⟩ := H
  refine xo_17s rfl hg2 ?_
  refine xo_2 rfl rfl ?_
  refine xo_1 rfl rfl ?_
  refine xo_0 rfl ?_
  refine xo_7 rfl rfl ?_
  obtain ⟨hg3, H⟩ := H
  refine xo_17s rfl hg3 ?_
  refine xo_2 rfl rfl ?_
  refine xo_1 rfl rfl ?_
  refine xo_0 rfl ?_
  refine xo_7 rfl rfl ?_
  obtain ⟨hg4, H⟩ := H
  refine xo_17s rfl hg4 ?_
  refine xo_2 rfl rfl ?_
  refine xo_1 rfl rfl ?_
  refine xo_0 rfl ?_
  refine xo_7 rfl rfl ?_
  obtain ⟨hg5, H⟩ := H
  refine xo_17s rfl hg5 ?_
  refine xo_10eq rfl (am_sp ?_ ?_ H)
  · intro hc6 H
    refine xo_0 rfl ?_
    refine xo_2 rfl rfl ?_
    refine xo_1 rfl rfl ?_
    refine xo_0 rfl ?_
    refine xo_7 rfl rfl ?_
    obtain ⟨hg7, H⟩ := H
    refine xo_17s rfl hg7 ?_
    refine cl_169_64 rfl hd_0 rfl ?_
    exact H
  · intro hc6 H
    refine xo_0 rfl ?_
    refine xo_12 rfl ?_
    refine xo_2 rfl rfl ?_
    refine xo_1 rfl rfl ?_
    refine xo_0 rfl ?_
    refine xo_7 rfl rfl ?_
    obtain ⟨hg8, H⟩ := H
    refine xo_17s rfl hg8 ?_
    refine cl_169_64 rfl hd_0 rfl ?_
    exact H
theorem sm_0_895 {x4 : Int32} {q5 : Option Value} {q6 : Option Value} {z0 : Int32} (hq5 : am_nl q5 = true) (hq6 : am_nl q6 = true) (H : am_X L xs d 170 0 [some (.ref 64)] [] am_C0 h o g (fun w h' o' g' => am_X L xs (d + 1) 0 899 [some (.ref am_scr), some (.ref 0), some (.ref 64), some (.ref 108), some (.int x4), q5, q6] (w.toList ++ [.int z0]) am_C0 h' o' g' Q T) T) : am_X L xs (d + 1) 0 895 [some (.ref am_scr), some (.ref 0), some (.ref 64), some (.ref 108), some (.int x4), q5, q6] [.int z0] am_C0 h o g Q T := by
  refine xo_2 rfl rfl ?_
  refine cl_170_64 rfl hd_0 rfl ?_
  exact H
theorem sm_0_933 {x4 : Int32} {q5 : Option Value} {q6 : Option Value} {z0 : Int32} (hq5 : am_nl q5 = true) (hq6 : am_nl q6 = true) (H : (am_ix (x4 + 1) L ∧ (am_ix (x4 + 2) L ∧ (am_ix (x4 + 3) L ∧ (am_ix (x4 + 4) L ∧ am_X L xs d 171 0 [some (.ref 64), some (.int (xs ((x4 + 1).toNatClampNeg))), some (.int (xs ((x4 + 2).toNatClampNeg))), some (.int (xs ((x4 + 3).toNatClampNeg))), some (.int (xs ((x4 + 4).toNatClampNeg))), none] [] am_C0 h o g (fun w h' o' g' => am_X L xs (d + 1) 0 963 [some (.ref am_scr), some (.ref 0), some (.ref 64), some (.ref 108), some (.int x4), some (.int z0), q6] (w.toList ++ []) am_C0 h' o' g' Q T) T))))) : am_X L xs (d + 1) 0 933 [some (.ref am_scr), some (.ref 0), some (.ref 64), some (.ref 108), some (.int x4), q5, q6] [.int z0] am_C0 h o g Q T := by
  refine xo_4 (lv' := [some (.ref am_scr), some (.ref 0), some (.ref 64), some (.ref 108), some (.int x4), some (.int z0), q6]) rfl rfl rfl ?_
  refine xo_2 rfl rfl ?_
  refine xo_2 rfl rfl ?_
  refine xo_1 rfl rfl ?_
  refine xo_0 rfl ?_
  refine xo_7 rfl rfl ?_
  obtain ⟨hg1, H⟩ := H
  refine xo_17s rfl hg1 ?_
  refine xo_2 rfl rfl ?_
  refine xo_1 rfl rfl ?_
  refine xo_0 rfl ?_
  refine xo_7 rfl rfl ?_
  obtain ⟨hg2, H⟩ := H
  refine xo_17s rfl hg2 ?_
  refine xo_2 rfl rfl ?_
  refine xo_1 rfl rfl ?_
  refine xo_0 rfl ?_
  refine xo_7 rfl rfl ?_
  obtain ⟨hg3, H⟩ := H
  refine xo_17s rfl hg3 ?_
  refine xo_2 rfl rfl ?_
  refine xo_1 rfl rfl ?_
  refine xo_0 rfl ?_
  refine xo_7 rfl rfl ?_
  obtain ⟨hg4, H⟩ := H
  refine xo_17s rfl hg4 ?_
  refine cl_171_64 rfl hd_0 rfl ?_
  exact H
theorem sm_0_1000 {x4 : Int32} {q5 : Option Value} {q6 : Option Value} {z0 : Int32} (hq5 : am_nl q5 = true) (hq6 : am_nl q6 = true) (H : am_X L xs d 173 0 [some (.ref 64), none, none] [] am_C0 h o g (fun w h' o' g' => am_X L xs (d + 1) 0 1004 [some (.ref am_scr), some (.ref 0), some (.ref 64), some (.ref 108), some (.int x4), q5, q6] (w.toList ++ [.int z0]) am_C0 h' o' g' Q T) T) : am_X L xs (d + 1) 0 1000 [some (.ref am_scr), some (.ref 0), some (.ref 64), some (.ref 108), some (.int x4), q5, q6] [.int z0] am_C0 h o g Q T := by
  refine xo_2 rfl rfl ?_
  refine cl_173_64 rfl hd_0 rfl ?_
  exact H
theorem sm_0_1051 {x4 : Int32} {q5 : Option Value} {q6 : Option Value} {z0 : Int32} (hq5 : am_nl q5 = true) (hq6 : am_nl q6 = true) (H : (am_ix (x4 + 1) L ∧ (am_ix (x4 + 2) L ∧ (am_ix (x4 + 3) L ∧ (am_ix (x4 + 4) L ∧ (am_ix (x4 + 5) L ∧ (am_ix (x4 + 6) L ∧ am_X L xs d 176 0 [some (.ref 64), some (.int (xs ((x4 + 1).toNatClampNeg))), some (.int (xs ((x4 + 2).toNatClampNeg))), some (.int (xs ((x4 + 3).toNatClampNeg))), some (.int (xs ((x4 + 4).toNatClampNeg))), some (.int (xs ((x4 + 5).toNatClampNeg))), some (.int (xs ((x4 + 6).toNatClampNeg)))] [] am_C0 h o g (fun w h' o' g' => am_X L xs (d + 1) 0 1094 [some (.ref am_scr), some (.ref 0), some (.ref 64), some (.ref 108), some (.int x4), some (.int z0), q6] (w.toList ++ []) am_C0 h' o' g' Q T) T))))))) : am_X L xs (d + 1) 0 1051 [some (.ref am_scr), some (.ref 0), some (.ref 64), some (.ref 108), some (.int x4), q5, q6] [.int z0] am_C0 h o g Q T := by
  refine xo_4 (lv' := [some (.ref am_scr), some (.ref 0), some (.ref 64), some (.ref 108), some (.int x4), some (.int z0), q6]) rfl rfl rfl ?_
  refine xo_2 rfl rfl ?_
  refine xo_2 rfl rfl ?_
  refine xo_1 rfl rfl ?_
  refine xo_0 rfl ?_
  refine xo_7 rfl rfl ?_
  obtain ⟨hg1, H⟩ := H
  refine xo_17s rfl hg1 ?_
  refine xo_2 rfl rfl ?_
  refine xo_1 rfl rfl ?_
  refine xo_0 rfl ?_
  refine xo_7 rfl rfl ?_
  obtain ⟨hg2, H⟩ := H
  refine xo_17s rfl hg2 ?_
  refine xo_2 rfl rfl ?_
  refine xo_1 rfl rfl ?_
  refine xo_0 rfl ?_
  refine xo_7 rfl rfl ?_
  obtain ⟨hg3, H⟩ := H
  refine xo_17s rfl hg3 ?_
  refine xo_2 rfl rfl ?_
  refine xo_1 rfl rfl ?_
  refine xo_0 rfl ?_
  refine xo_7 rfl rfl ?_
  obtain ⟨hg4, H⟩ := H
  refine xo_17s rfl hg4 ?_
  refine xo_2 rfl rfl ?_
  refine xo_1 rfl rfl ?_
  refine xo_0 rfl ?_
  refine xo_7 rfl rfl ?_
  obtain ⟨hg5, H⟩ := H
  refine xo_17s rfl hg5 ?_
  refine xo_2 rfl rfl ?_
  refine xo_1 rfl rfl ?_
  refine xo_0 rfl ?_
  refine xo_7 rfl rfl ?_
  obtain ⟨hg6, H⟩ := H
  refine xo_17s rfl hg6 ?_
  refine cl_176_64 rfl hd_0 rfl ?_
  exact H
theorem sm_0_1151 {x4 : Int32} {q5 : Option Value} {q6 : Option Value} {z0 : Int32} (hq5 : am_nl q5 = true) (hq6 : am_nl q6 = true) (H : (am_ix (x4 + 1) L ∧ (am_ix (x4 + 2) L ∧ am_X L xs d 180 0 [some (.ref 64), some (.int (xs ((x4 + 1).toNatClampNeg))), some (.int (xs ((x4 + 2).toNatClampNeg))), none, none] [] am_C0 h o g (fun w h' o' g' => am_X L xs (d + 1) 0 1169 [some (.ref am_scr), some (.ref 0), some (.ref 64), some (.ref 108), some (.int x4), some (.int z0), q6] (w.toList ++ []) am_C0 h' o' g' Q T) T))) : am_X L xs (d + 1) 0 1151 [some (.ref am_scr), some (.ref 0), some (.ref 64), some (.ref 108), some (.int x4), q5, q6] [.int z0] am_C0 h o g Q T := by
  refine xo_4 (lv' := [some (.ref am_scr), some (.ref 0), some (.ref 64), some (.ref 108), some (.int x4), some (.int z0), q6]) rfl rfl rfl ?_
  refine xo_2 rfl rfl ?_
  refine xo_2 rfl rfl ?_
  refine xo_1 rfl rfl ?_
  refine xo_0 rfl ?_
  refine xo_7 rfl rfl ?_
  obtain ⟨hg1, H⟩ := H
  refine xo_17s rfl hg1 ?_
  refine xo_2 rfl rfl ?_
  refine xo_1 rfl rfl ?_
  refine xo_0 rfl ?_
  refine xo_7 rfl rfl ?_
  obtain ⟨hg2, H⟩ := H
  refine xo_17s rfl hg2 ?_
  refine cl_180_64 rfl hd_0 rfl ?_
  exact H
theorem sm_0_1219 {x4 : Int32} {q5 : Option Value} {q6 : Option Value} {z0 : Int32} (hq5 : am_nl q5 = true) (hq6 : am_nl q6 = true) (H : (am_ix (x4 + 1) L ∧ (am_ix (x4 + 2) L ∧ am_X L xs d 189 0 [some (.ref 64), some (.int (xs ((x4 + 1).toNatClampNeg))), some (.int (xs ((x4 + 2).toNatClampNeg)))] [] am_C0 h o g (fun w h' o' g' => am_X L xs (d + 1) 0 1237 [some (.ref am_scr), some (.ref 0), some (.ref 64), some (.ref 108), some (.int x4), some (.int z0), q6] (w.toList ++ []) am_C0 h' o' g' Q T) T))) : am_X L xs (d + 1) 0 1219 [some (.ref am_scr), some (.ref 0), some (.ref 64), some (.ref 108), some (.int x4), q5, q6] [.int z0] am_C0 h o g Q T := by
  refine xo_4 (lv' := [some (.ref am_scr), some (.ref 0), some (.ref 64), some (.ref 108), some (.int x4), some (.int z0), q6]) rfl rfl rfl ?_
  refine xo_2 rfl rfl ?_
  refine xo_2 rfl rfl ?_
  refine xo_1 rfl rfl ?_
  refine xo_0 rfl ?_
  refine xo_7 rfl rfl ?_
  obtain ⟨hg1, H⟩ := H
  refine xo_17s rfl hg1 ?_
  refine xo_2 rfl rfl ?_
  refine xo_1 rfl rfl ?_
  refine xo_0 rfl ?_
  refine xo_7 rfl rfl ?_
  obtain ⟨hg2, H⟩ := H
  refine xo_17s rfl hg2 ?_
  refine cl_189_64 rfl hd_0 rfl ?_
  exact H
theorem sm_0_1299 {x4 : Int32} {q5 : Option Value} {q6 : Option Value} {z0 : Int32} (hq5 : am_nl q5 = true) (hq6 : am_nl q6 = true) (H : (am_ix (x4 + 1) L ∧ (am_ix (x4 + 2) L ∧ (am_ix (x4 + 3) L ∧ (am_ix (x4 + 4) L ∧ am_X L xs d 190 0 [some (.ref 64), some (.int (xs ((x4 + 1).toNatClampNeg))), some (.int (xs ((x4 + 2).toNatClampNeg))), some (.int (xs ((x4 + 3).toNatClampNeg))), some (.int (xs ((x4 + 4).toNatClampNeg))), none, none, none] [] am_C0 h o g (fun w h' o' g' => am_X L xs (d + 1) 0 1329 [some (.ref am_scr), some (.ref 0), some (.ref 64), some (.ref 108), some (.int x4), some (.int z0), q6] (w.toList ++ []) am_C0 h' o' g' Q T) T))))) : am_X L xs (d + 1) 0 1299 [some (.ref am_scr), some (.ref 0), some (.ref 64), some (.ref 108), some (.int x4), q5, q6] [.int z0] am_C0 h o g Q T := by
  refine xo_4 (lv' := [some (.ref am_scr), some (.ref 0), some (.ref 64), some (.ref 108), some (.int x4), some (.int z0), q6]) rfl rfl rfl ?_
  refine xo_2 rfl rfl ?_
  refine xo_2 rfl rfl ?_
  refine xo_1 rfl rfl ?_
  refine xo_0 rfl ?_
  refine xo_7 rfl rfl ?_
  obtain ⟨hg1, H⟩ := H
  refine xo_17s rfl hg1 ?_
  refine xo_2 rfl rfl ?_
  refine xo_1 rfl rfl ?_
  refine xo_0 rfl ?_
  refine xo_7 rfl rfl ?_
  obtain ⟨hg2, H⟩ := H
  refine xo_17s rfl hg2 ?_
  refine xo_2 rfl rfl ?_
  refine xo_1 rfl rfl ?_
  refine xo_0 rfl ?_
  refine xo_7 rfl rfl ?_
  obtain ⟨hg3, H⟩ := H
  refine xo_17s rfl hg3 ?_
  refine xo_2 rfl rfl ?_
  refine xo_1 rfl rfl ?_
  refine xo_0 rfl ?_
  refine xo_7 rfl rfl ?_
  obtain ⟨hg4, H⟩ := H
  refine xo_17s rfl hg4 ?_
  refine cl_190_64 rfl hd_0 rfl ?_
  exact H
theorem sm_0_1385 {x4 : Int32} {q5 : Option Value} {q6 : Option Value} {z0 : Int32} (hq5 : am_nl q5 = true) (hq6 : am_nl q6 = true) (H : (am_ix (x4 + 1) L ∧ (am_ix (x4 + 2) L ∧ (am_ix (x4 + 3) L ∧ am_X L xs d 192 0 [some (.ref 64), some (.int (xs ((x4 + 1).toNatClampNeg))), some (.int (xs ((x4 + 2).toNatClampNeg))), some (.int (xs ((x4 + 3).toNatClampNeg)))] [] am_C0 h o g (fun w h' o' g' => am_X L xs (d + 1) 0 1409 [some (.ref am_scr), some (.ref 0), some (.ref 64), some (.ref 108), some (.int x4), some (.int z0), q6] (w.toList ++ []) am_C0 h' o' g' Q T) T)))) : am_X L xs (d + 1) 0 1385 [some (.ref am_scr), some (.ref 0), some (.ref 64), some (.ref 108), some (.int x4), q5, q6] [.int z0] am_C0 h o g Q T := by
  refine xo_4 (lv' := [some (.ref am_scr), some (.ref 0), some (.ref 64), some (.ref 108), some (.int x4), some (.int z0), q6]) rfl rfl rfl ?_
  refine xo_2 rfl rfl ?_
  refine xo_2 rfl rfl ?_
  refine xo_1 rfl rfl ?_
  refine xo_0 rfl ?_
  refine xo_7 rfl rfl ?_
  obtain ⟨hg1, H⟩ := H
  refine xo_17s rfl hg1 ?_
  refine xo_2 rfl rfl ?_
  refine xo_1 rfl rfl ?_
  refine xo_0 rfl ?_
  refine xo_7 rfl rfl ?_
  obtain ⟨hg2, H⟩ := H
  refine xo_17s rfl hg2 ?_
  refine xo_2 rfl rfl ?_
  refine xo_1 rfl rfl ?_
  refine xo_0 rfl ?_
  refine xo_7 rfl rfl ?_
  obtain ⟨hg3, H⟩ := H
  refine xo_17s rfl hg3 ?_
  refine cl_192_64 rfl hd_0 rfl ?_
  exact H
theorem sm_0_1459 {x4 : Int32} {q5 : Option Value} {q6 : Option Value} {z0 : Int32} (hq5 : am_nl q5 = true) (hq6 : am_nl q6 = true) (H : (am_ix (x4 + 1) L ∧ (am_ix (x4 + 2) L ∧ am_X L xs d 194 0 [some (.ref 64), some (.int (xs ((x4 + 1).toNatClampNeg))), some (.int (xs ((x4 + 2).toNatClampNeg))), none, none, none, none, none, none] [] am_C0 h o g (fun w h' o' g' => am_X L xs (d + 1) 0 1477 [some (.ref am_scr), some (.ref 0), some (.ref 64), some (.ref 108), some (.int x4), some (.int z0), q6] (w.toList ++ []) am_C0 h' o' g' Q T) T))) : am_X L xs (d + 1) 0 1459 [some (.ref am_scr), some (.ref 0), some (.ref 64), some (.ref 108), some (.int x4), q5, q6] [.int z0] am_C0 h o g Q T := by
  refine xo_4 (lv' := [some (.ref am_scr), some (.ref 0), some (.ref 64), some (.ref 108), some (.int x4), some (.int z0), q6]) rfl rfl rfl ?_
  refine xo_2 rfl rfl ?_
  refine xo_2 rfl rfl ?_
  refine xo_1 rfl rfl ?_
  refine xo_0 rfl ?_
  refine xo_7 rfl rfl ?_
  obtain ⟨hg1, H⟩ := H
  refine xo_17s rfl hg1 ?_
  refine xo_2 rfl rfl ?_
  refine xo_1 rfl rfl ?_
  refine xo_0 rfl ?_
  refine xo_7 rfl rfl ?_
  obtain ⟨hg2, H⟩ := H
  refine xo_17s rfl hg2 ?_
  refine cl_194_64 rfl hd_0 rfl ?_
  exact H
theorem sm_0_1533 {x4 : Int32} {q5 : Option Value} {q6 : Option Value} {z0 : Int32} (hq5 : am_nl q5 = true) (hq6 : am_nl q6 = true) (H : (am_ix (x4 + 1) L ∧ (am_ix (x4 + 2) L ∧ (am_ix (x4 + 3) L ∧ am_X L xs d 195 0 [some (.ref 64), some (.int (xs ((x4 + 1).toNatClampNeg))), some (.int (xs ((x4 + 2).toNatClampNeg))), some (.int (xs ((x4 + 3).toNatClampNeg))), none] [] am_C0 h o g (fun w h' o' g' => am_X L xs (d + 1) 0 1557 [some (.ref am_scr), some (.ref 0), some (.ref 64), some (.ref 108), some (.int x4), some (.int z0), q6] (w.toList ++ []) am_C0 h' o' g' Q T) T)))) : am_X L xs (d + 1) 0 1533 [some (.ref am_scr), some (.ref 0), some (.ref 64), some (.ref 108), some (.int x4), q5, q6] [.int z0] am_C0 h o g Q T := by
  refine xo_4 (lv' := [some (.ref am_scr), some (.ref 0), some (.ref 64), some (.ref 108), some (.int x4), some (.int z0), q6]) rfl rfl rfl ?_
  refine xo_2 rfl rfl ?_
  refine xo_2 rfl rfl ?_
  refine xo_1 rfl rfl ?_
  refine xo_0 rfl ?_
  refine xo_7 rfl rfl ?_
  obtain ⟨hg1, H⟩ := H
  refine xo_17s rfl hg1 ?_
  refine xo_2 rfl rfl ?_
  refine xo_1 rfl rfl ?_
  refine xo_0 rfl ?_
  refine xo_7 rfl rfl ?_
  obtain ⟨hg2, H⟩ := H
  refine xo_17s rfl hg2 ?_
  refine xo_2 rfl rfl ?_
  refine xo_1 rfl rfl ?_
  refine xo_0 rfl ?_
  refine xo_7 rfl rfl ?_
  obtain ⟨hg3, H⟩ := H
  refine xo_17s rfl hg3 ?_
  refine cl_195_64 rfl hd_0 rfl ?_
  exact H
theorem sm_0_1613 {x4 : Int32} {q5 : Option Value} {q6 : Option Value} {z0 : Int32} (hq5 : am_nl q5 = true) (hq6 : am_nl q6 = true) (H : (am_ix (x4 + 1) L ∧ (am_ix (x4 + 2) L ∧ (am_ix (x4 + 3) L ∧ am_X L xs d 196 0 [some (.ref 64), some (.int (xs ((x4 + 1).toNatClampNeg))), some (.int (xs ((x4 + 2).toNatClampNeg))), some (.int (xs ((x4 + 3).toNatClampNeg))), none] [] am_C0 h o g (fun w h' o' g' => am_X L xs (d + 1) 0 1637 [some (.ref am_scr), some (.ref 0), some (.ref 64), some (.ref 108), some (.int x4), some (.int z0), q6] (w.toList ++ []) am_C0 h' o' g' Q T) T)))) : am_X L xs (d + 1) 0 1613 [some (.ref am_scr), some (.ref 0), some (.ref 64), some (.ref 108), some (.int x4), q5, q6] [.int z0] am_C0 h o g Q T := by
  refine xo_4 (lv' := [some (.ref am_scr), some (.ref 0), some (.ref 64), some (.ref 108), some (.int x4), some (.int z0), q6]) rfl rfl rfl ?_
  refine xo_2 rfl rfl ?_
  refine xo_2 rfl rfl ?_
  refine xo_1 rfl rfl ?_
  refine xo_0 rfl ?_
  refine xo_7 rfl rfl ?_
  obtain ⟨hg1, H⟩ := H
  refine xo_17s rfl hg1 ?_
  refine xo_2 rfl rfl ?_
  refine xo_1 rfl rfl ?_
  refine xo_0 rfl ?_
  refine xo_7 rfl rfl ?_
  obtain ⟨hg2, H⟩ := H
  refine xo_17s rfl hg2 ?_
  refine xo_2 rfl rfl ?_
  refine xo_1 rfl rfl ?_
  refine xo_0 rfl ?_
  refine xo_7 rfl rfl ?_
  obtain ⟨hg3, H⟩ := H
  refine xo_17s rfl hg3 ?_
  refine cl_196_64 rfl hd_0 rfl ?_
  exact H
theorem sm_0_1712 {x4 : Int32} {q5 : Option Value} {q6 : Option Value} {z0 : Int32} (hq5 : am_nl q5 = true) (hq6 : am_nl q6 = true) (H : (am_ix (x4 + 1) L ∧ (am_ix (x4 + 2) L ∧ (am_ix (x4 + 3) L ∧ (am_ix (x4 + 4) L ∧ (am_ix (x4 + 5) L ∧ (am_ix (x4 + 6) L ∧ am_X L xs d 197 0 [some (.ref 64), some (.int (xs ((x4 + 1).toNatClampNeg))), some (.int (xs ((x4 + 2).toNatClampNeg))), some (.int (xs ((x4 + 3).toNatClampNeg))), some (.int (xs ((x4 + 4).toNatClampNeg))), some (.int (xs ((x4 + 5).toNatClampNeg))), some (.int (xs ((x4 + 6).toNatClampNeg))), none, none] [] am_C0 h o g (fun w h' o' g' => am_X L xs (d + 1) 0 1755 [some (.ref am_scr), some (.ref 0), some (.ref 64), some (.ref 108), some (.int x4), some (.int z0), q6] (w.toList ++ []) am_C0 h' o' g' Q T) T))))))) : am_X L xs (d + 1) 0 1712 [some (.ref am_scr), some (.ref 0), some (.ref 64), some (.ref 108), some (.int x4), q5, q6] [.int z0] am_C0 h o g Q T := by
  refine xo_4 (lv' := [some (.ref am_scr), some (.ref 0), some (.ref 64), some (.ref 108), some (.int x4), some (.int z0), q6]) rfl rfl rfl ?_
  refine xo_2 rfl rfl ?_
  refine xo_2 rfl rfl ?_
  refine xo_1 rfl rfl ?_
  refine xo_0 rfl ?_
  refine xo_7 rfl rfl ?_
  obtain ⟨hg1, H⟩ := H
  refine xo_17s rfl hg1 ?_
  refine xo_2 rfl rfl ?_
  refine xo_1 rfl rfl ?_
  refine xo_0 rfl ?_
  refine xo_7 rfl rfl ?_
  obtain ⟨hg2, H⟩ := H
  refine xo_17s rfl hg2 ?_
  refine xo_2 rfl rfl ?_
  refine xo_1 rfl rfl ?_
  refine xo_0 rfl ?_
  refine xo_7 rfl rfl ?_
  obtain ⟨hg3, H⟩ := H
  refine xo_17s rfl hg3 ?_
  refine xo_2 rfl rfl ?_
  refine xo_1 rfl rfl ?_
  refine xo_0 rfl ?_
  refine xo_7 rfl rfl ?_
  obtain ⟨hg4, H⟩ := H
  refine xo_17s rfl hg4 ?_
  refine xo_2 rfl rfl ?_
  refine xo_1 rfl rfl ?_
  refine xo_0 rfl ?_
  refine xo_7 rfl rfl ?_
  obtain ⟨hg5, H⟩ := H
  refine xo_17s rfl hg5 ?_
  refine xo_2 rfl rfl ?_
  refine xo_1 rfl rfl ?_
  refine xo_0 rfl ?_
  refine xo_7 rfl rfl ?_
  obtain ⟨hg6, H⟩ := H
  refine xo_17s rfl hg6 ?_
  refine cl_197_64 rfl hd_0 rfl ?_
  exact H
theorem sm_0_1811 {x4 : Int32} {q5 : Option Value} {q6 : Option Value} {z0 : Int32} (hq5 : am_nl q5 = true) (hq6 : am_nl q6 = true) (H : (am_ix (x4 + 1) L ∧ (am_ix (x4 + 2) L ∧ (am_ix (x4 + 3) L ∧ am_X L xs d 199 0 [some (.ref 64), some (.int (xs ((x4 + 1).toNatClampNeg))), some (.int (xs ((x4 + 2).toNatClampNeg))), some (.int (xs ((x4 + 3).toNatClampNeg)))] [] am_C0 h o g (fun w h' o' g' => am_X L xs (d + 1) 0 1835 [some (.ref am_scr), some (.ref 0), some (.ref 64), some (.ref 108), some (.int x4), some (.int z0), q6] (w.toList ++ []) am_C0 h' o' g' Q T) T)))) : am_X L xs (d + 1) 0 1811 [some (.ref am_scr), some (.ref 0), some (.ref 64), some (.ref 108), some (.int x4), q5, q6] [.int z0] am_C0 h o g Q T := by
  refine xo_4 (lv' := [some (.ref am_scr), some (.ref 0), some (.ref 64), some (.ref 108), some (.int x4), some (.int z0), q6]) rfl rfl rfl ?_
  refine xo_2 rfl rfl ?_
  refine xo_2 rfl rfl ?_
  refine xo_1 rfl rfl ?_
  refine xo_0 rfl ?_
  refine xo_7 rfl rfl ?_
  obtain ⟨hg1, H⟩ := H
  refine xo_17s rfl hg1 ?_
  refine xo_2 rfl rfl ?_
  refine xo_1 rfl rfl ?_
  refine xo_0 rfl ?_
  refine xo_7 rfl rfl ?_
  obtain ⟨hg2, H⟩ := H
  refine xo_17s rfl hg2 ?_
  refine xo_2 rfl rfl ?_
  refine xo_1 rfl rfl ?_
  refine xo_0 rfl ?_
  refine xo_7 rfl rfl ?_
  obtain ⟨hg3, H⟩ := H
  refine xo_17s rfl hg3 ?_
  refine cl_199_64 rfl hd_0 rfl ?_
  exact H
theorem sm_0_1886 {x4 : Int32} {q5 : Option Value} {q6 : Option Value} {z0 : Int32} (hq5 : am_nl q5 = true) (hq6 : am_nl q6 = true) (H : (am_ix (x4 + 1) L ∧ am_X L xs d 200 0 [some (.ref 64), some (.int (xs ((x4 + 1).toNatClampNeg))), none] [] am_C0 h o g (fun w h' o' g' => am_X L xs (d + 1) 0 1898 [some (.ref am_scr), some (.ref 0), some (.ref 64), some (.ref 108), some (.int x4), some (.int z0), q6] (w.toList ++ []) am_C0 h' o' g' Q T) T)) : am_X L xs (d + 1) 0 1886 [some (.ref am_scr), some (.ref 0), some (.ref 64), some (.ref 108), some (.int x4), q5, q6] [.int z0] am_C0 h o g Q T := by
  refine xo_4 (lv' := [some (.ref am_scr), some (.ref 0), some (.ref 64), some (.ref 108), some (.int x4), some (.int z0), q6]) rfl rfl rfl ?_
  refine xo_2 rfl rfl ?_
  refine xo_2 rfl rfl ?_
  refine xo_1 rfl rfl ?_
  refine xo_0 rfl ?_
  refine xo_7 rfl rfl ?_
  obtain ⟨hg1, H⟩ := H
  refine xo_17s rfl hg1 ?_
  refine cl_200_64 rfl hd_0 rfl ?_
  exact H
theorem sm_0_1935 {x4 : Int32} {q5 : Option Value} {q6 : Option Value} (hq5 : am_nl q5 = true) (hq6 : am_nl q6 = true) (H : am_X L xs d 202 0 [some (.ref 64), none] [] am_C0 h o g (fun w h' o' g' => am_X L xs (d + 1) 0 1939 [some (.ref am_scr), some (.ref 0), some (.ref 64), some (.ref 108), some (.int x4), q5, q6] (w.toList ++ []) am_C0 h' o' g' Q T) T) : am_X L xs (d + 1) 0 1935 [some (.ref am_scr), some (.ref 0), some (.ref 64), some (.ref 108), some (.int x4), q5, q6] [] am_C0 h o g Q T := by
  refine xo_2 rfl rfl ?_
  refine cl_202_64 rfl hd_0 rfl ?_
  exact H
theorem sm_0_1946 {x4 : Int32} {q5 : Option Value} {q6 : Option Value} {z0 : Int32} (hq5 : am_nl q5 = true) (hq6 : am_nl q6 = true) (H : am_X L xs d 204 0 [some (.ref 64), none] [] am_C0 h o g (fun w h' o' g' => am_X L xs (d + 1) 0 1950 [some (.ref am_scr), some (.ref 0), some (.ref 64), some (.ref 108), some (.int x4), q5, q6] (w.toList ++ [.int z0]) am_C0 h' o' g' Q T) T) : am_X L xs (d + 1) 0 1946 [some (.ref am_scr), some (.ref 0), some (.ref 64), some (.ref 108), some (.int x4), q5, q6] [.int z0] am_C0 h o g Q T := by
  refine xo_2 rfl rfl ?_
  refine cl_204_64 rfl hd_0 rfl ?_
  exact H
theorem sm_0_228 {x4 : Int32} {q5 : Option Value} {q6 : Option Value} {z0 : Int32} {z1 : Int32} (hq5 : am_nl q5 = true) (hq6 : am_nl q6 = true) (H : (if z0 = z1 then am_X L xs d 0 23 [some (.ref am_scr), some (.ref 0), some (.ref 64), some (.ref 108), some (.int (x4 + 7)), q5, q6] [] am_C0 h o g Q T else Q (some (.int 0)) h o g)) : am_X L xs d 0 228 [some (.ref am_scr), some (.ref 0), some (.ref 64), some (.ref 108), some (.int x4), q5, q6] [.int z1, .int z0] am_C0 h o g Q T := by
  refine xo_11eq rfl (am_sp ?_ ?_ H)
  · intro hc1 H
    refine xo_9 (z := (x4 + 7)) (lv' := [some (.ref am_scr), some (.ref 0), some (.ref 64), some (.ref 108), some (.int (x4 + 7)), q5, q6]) rfl rfl rfl rfl rfl ?_
    refine xo_12 rfl ?_
    exact H
  · intro hc1 H
    refine xo_0 rfl ?_
    refine xo_42 rfl rfl ?_
    exact H
theorem sm_0_256 {x4 : Int32} {x5 : Int32} {q6 : Option Value} {z0 : Int32} (hq6 : am_nl q6 = true) (H : (if (h 64 3) = x5 then (if x5 = 0 then (if (lg_cmp (o 108 0) z0.toInt64) = 0 then am_X L xs (d + 1) 0 23 [some (.ref am_scr), some (.ref 0), some (.ref 64), some (.ref 108), some (.int (x4 + 7)), some (.int x5), some (.int z0)] [] am_C0 h o g Q T else Q (some (.int 0)) h o g) else am_X L xs (d + 1) 0 23 [some (.ref am_scr), some (.ref 0), some (.ref 64), some (.ref 108), some (.int (x4 + 7)), some (.int x5), some (.int z0)] [] am_C0 h o g Q T) else Q (some (.int 0)) h o g)) : am_X L xs (d + 1) 0 256 [some (.ref am_scr), some (.ref 0), some (.ref 64), some (.ref 108), some (.int x4), some (.int x5), q6] [.int z0] am_C0 h o g Q T := by
  refine xo_4 (lv' := [some (.ref am_scr), some (.ref 0), some (.ref 64), some (.ref 108), some (.int x4), some (.int x5), some (.int z0)]) rfl rfl rfl ?_
  refine xo_2 rfl rfl ?_
  refine cl_130_64 rfl hd_0 rfl ?_
  refine xo_2 rfl rfl ?_
  refine xo_13 rfl cf_64_3 ?_
  refine xr_41 rfl ?_
  refine xo_1 rfl rfl ?_
  refine xo_11eq rfl (am_sp ?_ ?_ H)
  · intro hc1 H
    refine xo_1 rfl rfl ?_
    refine xo_10ne rfl (am_sp ?_ ?_ H)
    · intro hc2 H
      refine xo_2 rfl rfl ?_
      refine xo_0 rfl ?_
      refine xo_21 rfl ca_108 (am_ix.lit rfl) ?_
      refine xo_1 rfl rfl ?_
      refine xo_32 rfl ?_
      refine xo_34 rfl ?_
      refine xo_10eq rfl (am_sp ?_ ?_ H)
      · intro hc3 H
        refine xo_12 rfl ?_
        refine xo_9 (z := (x4 + 7)) (lv' := [some (.ref am_scr), some (.ref 0), some (.ref 64), some (.ref 108), some (.int (x4 + 7)), some (.int x5), some (.int z0)]) rfl rfl rfl rfl rfl ?_
        refine xo_12 rfl ?_
        exact H
      · intro hc3 H
        refine xo_0 rfl ?_
        refine xo_42 rfl rfl ?_
        exact H
    · intro hc2 H
      refine xo_12 rfl ?_
      refine xo_9 (z := (x4 + 7)) (lv' := [some (.ref am_scr), some (.ref 0), some (.ref 64), some (.ref 108), some (.int (x4 + 7)), some (.int x5), some (.int z0)]) rfl rfl rfl rfl rfl ?_
      refine xo_12 rfl ?_
      exact H
  · intro hc1 H
    refine xo_0 rfl ?_
    refine xo_42 rfl rfl ?_
    exact H
theorem sm_0_297 {x4 : Int32} {q5 : Option Value} {q6 : Option Value} {z0 : Int32} {z1 : Int32} (hq5 : am_nl q5 = true) (hq6 : am_nl q6 = true) (H : (if z0 = z1 then am_X L xs d 0 23 [some (.ref am_scr), some (.ref 0), some (.ref 64), some (.ref 108), some (.int (x4 + 7)), q5, q6] [] am_C0 h o g Q T else Q (some (.int 0)) h o g)) : am_X L xs d 0 297 [some (.ref am_scr), some (.ref 0), some (.ref 64), some (.ref 108), some (.int x4), q5, q6] [.int z1, .int z0] am_C0 h o g Q T := by
  refine xo_11eq rfl (am_sp ?_ ?_ H)
  · intro hc1 H
    refine xo_9 (z := (x4 + 7)) (lv' := [some (.ref am_scr), some (.ref 0), some (.ref 64), some (.ref 108), some (.int (x4 + 7)), q5, q6]) rfl rfl rfl rfl rfl ?_
    refine xo_12 rfl ?_
    exact H
  · intro hc1 H
    refine xo_0 rfl ?_
    refine xo_42 rfl rfl ?_
    exact H
theorem sm_0_325 {x4 : Int32} {x5 : Int32} {q6 : Option Value} {z0 : Int32} (hq6 : am_nl q6 = true) (H : (if (h 64 3) = x5 then (if x5 = 0 then (if (lg_cmp (o 108 0) z0.toInt64) = 0 then am_X L xs (d + 1) 0 23 [some (.ref am_scr), some (.ref 0), some (.ref 64), some (.ref 108), some (.int (x4 + 7)), some (.int x5), some (.int z0)] [] am_C0 h o g Q T else Q (some (.int 0)) h o g) else am_X L xs (d + 1) 0 23 [some (.ref am_scr), some (.ref 0), some (.ref 64), some (.ref 108), some (.int (x4 + 7)), some (.int x5), some (.int z0)] [] am_C0 h o g Q T) else Q (some (.int 0)) h o g)) : am_X L xs (d + 1) 0 325 [some (.ref am_scr), some (.ref 0), some (.ref 64), some (.ref 108), some (.int x4), some (.int x5), q6] [.int z0] am_C0 h o g Q T := by
  refine xo_4 (lv' := [some (.ref am_scr), some (.ref 0), some (.ref 64), some (.ref 108), some (.int x4), some (.int x5), some (.int z0)]) rfl rfl rfl ?_
  refine xo_2 rfl rfl ?_
  refine cl_130_64 rfl hd_0 rfl ?_
  refine xo_2 rfl rfl ?_
  refine xo_13 rfl cf_64_3 ?_
  refine xr_41 rfl ?_
  refine xo_1 rfl rfl ?_
  refine xo_11eq rfl (am_sp ?_ ?_ H)
  · intro hc1 H
    refine xo_1 rfl rfl ?_
    refine xo_10ne rfl (am_sp ?_ ?_ H)
    · intro hc2 H
      refine xo_2 rfl rfl ?_
      refine xo_0 rfl ?_
      refine xo_21 rfl ca_108 (am_ix.lit rfl) ?_
      refine xo_1 rfl rfl ?_
      refine xo_32 rfl ?_
      refine xo_34 rfl ?_
      refine xo_10eq rfl (am_sp ?_ ?_ H)
      · intro hc3 H
        refine xo_12 rfl ?_
        refine xo_9 (z := (x4 + 7)) (lv' := [some (.ref am_scr), some (.ref 0), some (.ref 64), some (.ref 108), some (.int (x4 + 7)), some (.int x5), some (.int z0)]) rfl rfl rfl rfl rfl ?_
        refine xo_12 rfl ?_
        exact H
      · intro hc3 H
        refine xo_0 rfl ?_
        refine xo_42 rfl rfl ?_
        exact H
    · intro hc2 H
      refine xo_12 rfl ?_
      refine xo_9 (z := (x4 + 7)) (lv' := [some (.ref am_scr), some (.ref 0), some (.ref 64), some (.ref 108), some (.int (x4 + 7)), some (.int x5), some (.int z0)]) rfl rfl rfl rfl rfl ?_
      refine xo_12 rfl ?_
      exact H
  · intro hc1 H
    refine xo_0 rfl ?_
    refine xo_42 rfl rfl ?_
    exact H
theorem sm_0_393 {x4 : Int32} {x5 : Int32} {q6 : Option Value} {z0 : Int32} (hq6 : am_nl q6 = true) (H : (if (h 64 3) = x5 then (if x5 = 0 then (if (lg_cmp (o 108 0) z0.toInt64) = 0 then am_X L xs (d + 1) 0 23 [some (.ref am_scr), some (.ref 0), some (.ref 64), some (.ref 108), some (.int (x4 + 7)), some (.int x5), some (.int z0)] [] am_C0 h o g Q T else Q (some (.int 0)) h o g) else am_X L xs (d + 1) 0 23 [some (.ref am_scr), some (.ref 0), some (.ref 64), some (.ref 108), some (.int (x4 + 7)), some (.int x5), some (.int z0)] [] am_C0 h o g Q T) else Q (some (.int 0)) h o g)) : am_X L xs (d + 1) 0 393 [some (.ref am_scr), some (.ref 0), some (.ref 64), some (.ref 108), some (.int x4), some (.int x5), q6] [.int z0] am_C0 h o g Q T := by
  refine xo_4 (lv' := [some (.ref am_scr), some (.ref 0), some (.ref 64), some (.ref 108), some (.int x4), some (.int x5), some (.int z0)]) rfl rfl rfl ?_
  refine xo_2 rfl rfl ?_
  refine cl_130_64 rfl hd_0 rfl ?_
  refine xo_2 rfl rfl ?_
  refine xo_13 rfl cf_64_3 ?_
  refine xr_41 rfl ?_
  refine xo_1 rfl rfl ?_
  refine xo_11eq rfl (am_sp ?_ ?_ H)
  · intro hc1 H
    refine xo_1 rfl rfl ?_
    refine xo_10ne rfl (am_sp ?_ ?_ H)
    · intro hc2 H
      refine xo_2 rfl rfl ?_
      refine xo_0 rfl ?_
      refine xo_21 rfl ca_108 (am_ix.lit rfl) ?_
      refine xo_1 rfl rfl ?_
      refine xo_32 rfl ?_
      refine xo_34 rfl ?_
      refine xo_10eq rfl (am_sp ?_ ?_ H)
      · intro hc3 H
        refine xo_12 rfl ?_
        refine xo_9 (z := (x4 + 7)) (lv' := [some (.ref am_scr), some (.ref 0), some (.ref 64), some (.ref 108), some (.int (x4 + 7)), some (.int x5), some (.int z0)]) rfl rfl rfl rfl rfl ?_
        refine xo_12 rfl ?_
        exact H
      · intro hc3 H
        refine xo_0 rfl ?_
        refine xo_42 rfl rfl ?_
        exact H
    · intro hc2 H
      refine xo_12 rfl ?_
      refine xo_9 (z := (x4 + 7)) (lv' := [some (.ref am_scr), some (.ref 0), some (.ref 64), some (.ref 108), some (.int (x4 + 7)), some (.int x5), some (.int z0)]) rfl rfl rfl rfl rfl ?_
      refine xo_12 rfl ?_
      exact H
  · intro hc1 H
    refine xo_0 rfl ?_
    refine xo_42 rfl rfl ?_
    exact H
theorem sm_0_461 {x4 : Int32} {x5 : Int32} {q6 : Option Value} {z0 : Int32} (hq6 : am_nl q6 = true) (H : (if (h 64 3) = x5 then (if x5 = 0 then (if (lg_cmp (o 108 0) z0.toInt64) = 0 then am_X L xs (d + 1) 0 23 [some (.ref am_scr), some (.ref 0), some (.ref 64), some (.ref 108), some (.int (x4 + 7)), some (.int x5), some (.int z0)] [] am_C0 h o g Q T else Q (some (.int 0)) h o g) else am_X L xs (d + 1) 0 23 [some (.ref am_scr), some (.ref 0), some (.ref 64), some (.ref 108), some (.int (x4 + 7)), some (.int x5), some (.int z0)] [] am_C0 h o g Q T) else Q (some (.int 0)) h o g)) : am_X L xs (d + 1) 0 461 [some (.ref am_scr), some (.ref 0), some (.ref 64), some (.ref 108), some (.int x4), some (.int x5), q6] [.int z0] am_C0 h o g Q T := by
  refine xo_4 (lv' := [some (.ref am_scr), some (.ref 0), some (.ref 64), some (.ref 108), some (.int x4), some (.int x5), some (.int z0)]) rfl rfl rfl ?_
  refine xo_2 rfl rfl ?_
  refine cl_130_64 rfl hd_0 rfl ?_
  refine xo_2 rfl rfl ?_
  refine xo_13 rfl cf_64_3 ?_
  refine xr_41 rfl ?_
  refine xo_1 rfl rfl ?_
  refine xo_11eq rfl (am_sp ?_ ?_ H)
  · intro hc1 H
    refine xo_1 rfl rfl ?_
    refine xo_10ne rfl (am_sp ?_ ?_ H)
    · intro hc2 H
      refine xo_2 rfl rfl ?_
      refine xo_0 rfl ?_
      refine xo_21 rfl ca_108 (am_ix.lit rfl) ?_
      refine xo_1 rfl rfl ?_
      refine xo_32 rfl ?_
      refine xo_34 rfl ?_
      refine xo_10eq rfl (am_sp ?_ ?_ H)
      · intro hc3 H
        refine xo_12 rfl ?_
        refine xo_9 (z := (x4 + 7)) (lv' := [some (.ref am_scr), some (.ref 0), some (.ref 64), some (.ref 108), some (.int (x4 + 7)), some (.int x5), some (.int z0)]) rfl rfl rfl rfl rfl ?_
        refine xo_12 rfl ?_
        exact H
      · intro hc3 H
        refine xo_0 rfl ?_
        refine xo_42 rfl rfl ?_
        exact H
    · intro hc2 H
      refine xo_12 rfl ?_
      refine xo_9 (z := (x4 + 7)) (lv' := [some (.ref am_scr), some (.ref 0), some (.ref 64), some (.ref 108), some (.int (x4 + 7)), some (.int x5), some (.int z0)]) rfl rfl rfl rfl rfl ?_
      refine xo_12 rfl ?_
      exact H
  · intro hc1 H
    refine xo_0 rfl ?_
    refine xo_42 rfl rfl ?_
    exact H
theorem sm_0_541 {x4 : Int32} {x5 : Int32} {q6 : Option Value} {z0 : Int32} (hq6 : am_nl q6 = true) (H : (if (h 64 3) = x5 then (if x5 = 0 then (if (lg_cmp (o 108 0) z0.toInt64) = 0 then am_X L xs (d + 1) 0 23 [some (.ref am_scr), some (.ref 0), some (.ref 64), some (.ref 108), some (.int (x4 + 7)), some (.int x5), some (.int z0)] [] am_C0 h o g Q T else Q (some (.int 0)) h o g) else am_X L xs (d + 1) 0 23 [some (.ref am_scr), some (.ref 0), some (.ref 64), some (.ref 108), some (.int (x4 + 7)), some (.int x5), some (.int z0)] [] am_C0 h o g Q T) else Q (some (.int 0)) h o g)) : am_X L xs (d + 1) 0 541 [some (.ref am_scr), some (.ref 0), some (.ref 64), some (.ref 108), some (.int x4), some (.int x5), q6] [.int z0] am_C0 h o g Q T := by
  refine xo_4 (lv' := [some (.ref am_scr), some (.ref 0), some (.ref 64), some (.ref 108), some (.int x4), some (.int x5), some (.int z0)]) rfl rfl rfl ?_
  refine xo_2 rfl rfl ?_
  refine cl_130_64 rfl hd_0 rfl ?_
  refine xo_2 rfl rfl ?_
  refine xo_13 rfl cf_64_3 ?_
  refine xr_41 rfl ?_
  refine xo_1 rfl rfl ?_
  refine xo_11eq rfl (am_sp ?_ ?_ H)
  · intro hc1 H
    refine xo_1 rfl rfl ?_
    refine xo_10ne rfl (am_sp ?_ ?_ H)
    · intro hc2 H
      refine xo_2 rfl rfl ?_
      refine xo_0 rfl ?_
      refine xo_21 rfl ca_108 (am_ix.lit rfl) ?_
      refine xo_1 rfl rfl ?_
      refine xo_32 rfl ?_
      refine xo_34 rfl ?_
      refine xo_10eq rfl (am_sp ?_ ?_ H)
      · intro hc3 H
        refine xo_12 rfl ?_
        refine xo_9 (z := (x4 + 7)) (lv' := [some (.ref am_scr), some (.ref 0), some (.ref 64), some (.ref 108), some (.int (x4 + 7)), some (.int x5), some (.int z0)]) rfl rfl rfl rfl rfl ?_
        refine xo_12 rfl ?_
        exact H
      · intro hc3 H
        refine xo_0 rfl ?_
        refine xo_42 rfl rfl ?_
        exact H
    · intro hc2 H
      refine xo_12 rfl ?_
      refine xo_9 (z := (x4 + 7)) (lv' := [some (.ref am_scr), some (.ref 0), some (.ref 64), some (.ref 108), some (.int (x4 + 7)), some (.int x5), some (.int z0)]) rfl rfl rfl rfl rfl ?_
      refine xo_12 rfl ?_
      exact H
  · intro hc1 H
    refine xo_0 rfl ?_
    refine xo_42 rfl rfl ?_
    exact H
theorem sm_0_609 {x4 : Int32} {x5 : Int32} {q6 : Option Value} {z0 : Int32} (hq6 : am_nl q6 = true) (H : (if (h 64 3) = x5 then (if x5 = 0 then (if z0 = 0 then (if (lg_cmp (o 108 0) (Int64.ofNat 0)) = 0 then am_X L xs (d + 1) 0 23 [some (.ref am_scr), some (.ref 0), some (.ref 64), some (.ref 108), some (.int (x4 + 7)), some (.int x5), some (.int z0)] [] am_C0 h o g Q T else Q (some (.int 0)) h o g) else (if (lg_cmp (o 108 0) (Int64.ofNat 1)) = 0 then am_X L xs (d + 1) 0 23 [some (.ref am_scr), some (.ref 0), some (.ref 64), some (.ref 108), some (.int (x4 + 7)), some (.int x5), some (.int z0)] [] am_C0 h o g Q T else Q (some (.int 0)) h o g)) else am_X L xs (d + 1) 0 23 [some (.ref am_scr), some (.ref 0), some (.ref 64), some (.ref 108), some (.int (x4 + 7)), some (.int x5), some (.int z0)] [] am_C0 h o g Q T) else Q (some (.int 0)) h o g)) : am_X L xs (d + 1) 0 609 [some (.ref am_scr), some (.ref 0), some (.ref 64), some (.ref 108), some (.int x4), some (.int x5), q6] [.int z0] am_C0 h o g Q T := by
  refine xo_4 (lv' := [some (.ref am_scr), some (.ref 0), some (.ref 64), some (.ref 108), some (.int x4), some (.int x5), some (.int z0)]) rfl rfl rfl ?_
  refine xo_2 rfl rfl ?_
  refine cl_130_64 rfl hd_0 rfl ?_
  refine xo_2 rfl rfl ?_
  refine xo_13 rfl cf_64_3 ?_
  refine xr_41 rfl ?_
  refine xo_1 rfl rfl ?_
  refine xo_11eq rfl (am_sp ?_ ?_ H)
  · intro hc1 H
    refine xo_1 rfl rfl ?_
    refine xo_10ne rfl (am_sp ?_ ?_ H)
    · intro hc2 H
      refine xo_2 rfl rfl ?_
      refine xo_0 rfl ?_
      refine xo_21 rfl ca_108 (am_ix.lit rfl) ?_
      refine xo_1 rfl rfl ?_
      refine xo_10eq rfl (am_sp ?_ ?_ H)
      · intro hc3 H
        refine xo_31 rfl ?_
        refine xo_34 rfl ?_
        refine xo_10eq rfl (am_sp ?_ ?_ H)
        · intro hc4 H
          refine xo_12 rfl ?_
          refine xo_9 (z := (x4 + 7)) (lv' := [some (.ref am_scr), some (.ref 0), some (.ref 64), some (.ref 108), some (.int (x4 + 7)), some (.int x5), some (.int z0)]) rfl rfl rfl rfl rfl ?_
          refine xo_12 rfl ?_
          exact H
        · intro hc4 H
          refine xo_0 rfl ?_
          refine xo_42 rfl rfl ?_
          exact H
      · intro hc3 H
        refine xo_31 rfl ?_
        refine xo_12 rfl ?_
        refine xo_34 rfl ?_
        refine xo_10eq rfl (am_sp ?_ ?_ H)
        · intro hc5 H
          refine xo_12 rfl ?_
          refine xo_9 (z := (x4 + 7)) (lv' := [some (.ref am_scr), some (.ref 0), some (.ref 64), some (.ref 108), some (.int (x4 + 7)), some (.int x5), some (.int z0)]) rfl rfl rfl rfl rfl ?_
          refine xo_12 rfl ?_
          exact H
        · intro hc5 H
          refine xo_0 rfl ?_
          refine xo_42 rfl rfl ?_
          exact H
    · intro hc2 H
      refine xo_12 rfl ?_
      refine xo_9 (z := (x4 + 7)) (lv' := [some (.ref am_scr), some (.ref 0), some (.ref 64), some (.ref 108), some (.int (x4 + 7)), some (.int x5), some (.int z0)]) rfl rfl rfl rfl rfl ?_
      refine xo_12 rfl ?_
      exact H
  · intro hc1 H
    refine xo_0 rfl ?_
    refine xo_42 rfl rfl ?_
    exact H
theorem sm_0_724 {x4 : Int32} {x5 : Int32} {q6 : Option Value} {z0 : Int32} (hq6 : am_nl q6 = true) (H : (if (h 64 3) = x5 then (if x5 = 0 then (if (lg_cmp (o 108 0) z0.toInt64) = 0 then am_X L xs (d + 1) 0 23 [some (.ref am_scr), some (.ref 0), some (.ref 64), some (.ref 108), some (.int (x4 + 7)), some (.int x5), some (.int z0)] [] am_C0 h o g Q T else Q (some (.int 0)) h o g) else am_X L xs (d + 1) 0 23 [some (.ref am_scr), some (.ref 0), some (.ref 64), some (.ref 108), some (.int (x4 + 7)), some (.int x5), some (.int z0)] [] am_C0 h o g Q T) else Q (some (.int 0)) h o g)) : am_X L xs (d + 1) 0 724 [some (.ref am_scr), some (.ref 0), some (.ref 64), some (.ref 108), some (.int x4), some (.int x5), q6] [.int z0] am_C0 h o g Q T := by
  refine xo_4 (lv' := [some (.ref am_scr), some (.ref 0), some (.ref 64), some (.ref 108), some (.int x4), some (.int x5), some (.int z0)]) rfl rfl rfl ?_
  refine xo_2 rfl rfl ?_
  refine cl_130_64 rfl hd_0 rfl ?_
  refine xo_2 rfl rfl ?_
  refine xo_13 rfl cf_64_3 ?_
  refine xr_41 rfl ?_
  refine xo_1 rfl rfl ?_
  refine xo_11eq rfl (am_sp ?_ ?_ H)
  · intro hc1 H
    refine xo_1 rfl rfl ?_
    refine xo_10ne rfl (am_sp ?_ ?_ H)
    · intro hc2 H
      refine xo_2 rfl rfl ?_
      refine xo_0 rfl ?_
      refine xo_21 rfl ca_108 (am_ix.lit rfl) ?_
      refine xo_1 rfl rfl ?_
      refine xo_32 rfl ?_
      refine xo_34 rfl ?_
      refine xo_10eq rfl (am_sp ?_ ?_ H)
      · intro hc3 H
        refine xo_12 rfl ?_
        refine xo_9 (z := (x4 + 7)) (lv' := [some (.ref am_scr), some (.ref 0), some (.ref 64), some (.ref 108), some (.int (x4 + 7)), some (.int x5), some (.int z0)]) rfl rfl rfl rfl rfl ?_
        refine xo_12 rfl ?_
        exact H
      · intro hc3 H
        refine xo_0 rfl ?_
        refine xo_42 rfl rfl ?_
        exact H
    · intro hc2 H
      refine xo_12 rfl ?_
      refine xo_9 (z := (x4 + 7)) (lv' := [some (.ref am_scr), some (.ref 0), some (.ref 64), some (.ref 108), some (.int (x4 + 7)), some (.int x5), some (.int z0)]) rfl rfl rfl rfl rfl ?_
      refine xo_12 rfl ?_
      exact H
  · intro hc1 H
    refine xo_0 rfl ?_
    refine xo_42 rfl rfl ?_
    exact H
theorem sm_0_858 {x4 : Int32} {x5 : Int32} {q6 : Option Value} {z0 : Int32} (hq6 : am_nl q6 = true) (H : (if (h 64 3) = x5 then (if x5 = 0 then (if (lg_cmp (o 108 0) z0.toInt64) = 0 then am_X L xs (d + 1) 0 23 [some (.ref am_scr), some (.ref 0), some (.ref 64), some (.ref 108), some (.int (x4 + 7)), some (.int x5), some (.int z0)] [] am_C0 h o g Q T else Q (some (.int 0)) h o g) else am_X L xs (d + 1) 0 23 [some (.ref am_scr), some (.ref 0), some (.ref 64), some (.ref 108), some (.int (x4 + 7)), some (.int x5), some (.int z0)] [] am_C0 h o g Q T) else Q (some (.int 0)) h o g)) : am_X L xs (d + 1) 0 858 [some (.ref am_scr), some (.ref 0), some (.ref 64), some (.ref 108), some (.int x4), some (.int x5), q6] [.int z0] am_C0 h o g Q T := by
  refine xo_4 (lv' := [some (.ref am_scr), some (.ref 0), some (.ref 64), some (.ref 108), some (.int x4), some (.int x5), some (.int z0)]) rfl rfl rfl ?_
  refine xo_2 rfl rfl ?_
  refine cl_130_64 rfl hd_0 rfl ?_
  refine xo_2 rfl rfl ?_
  refine xo_13 rfl cf_64_3 ?_
  refine xr_41 rfl ?_
  refine xo_1 rfl rfl ?_
  refine xo_11eq rfl (am_sp ?_ ?_ H)
  · intro hc1 H
    refine xo_1 rfl rfl ?_
    refine xo_10ne rfl (am_sp ?_ ?_ H)
    · intro hc2 H
      refine xo_2 rfl rfl ?_
      refine xo_0 rfl ?_
      refine xo_21 rfl ca_108 (am_ix.lit rfl) ?_
      refine xo_1 rfl rfl ?_
      refine xo_32 rfl ?_
      refine xo_34 rfl ?_
      refine xo_10eq rfl (am_sp ?_ ?_ H)
      · intro hc3 H
        refine xo_12 rfl ?_
        refine xo_9 (z := (x4 + 7)) (lv' := [some (.ref am_scr), some (.ref 0), some (.ref 64), some (.ref 108), some (.int (x4 + 7)), some (.int x5), some (.int z0)]) rfl rfl rfl rfl rfl ?_
        refine xo_12 rfl ?_
        exact H
      · intro hc3 H
        refine xo_0 rfl ?_
        refine xo_42 rfl rfl ?_
        exact H
    · intro hc2 H
      refine xo_12 rfl ?_
      refine xo_9 (z := (x4 + 7)) (lv' := [some (.ref am_scr), some (.ref 0), some (.ref 64), some (.ref 108), some (.int (x4 + 7)), some (.int x5), some (.int z0)]) rfl rfl rfl rfl rfl ?_
      refine xo_12 rfl ?_
      exact H
  · intro hc1 H
    refine xo_0 rfl ?_
    refine xo_42 rfl rfl ?_
    exact H
theorem sm_0_899 {x4 : Int32} {q5 : Option Value} {q6 : Option Value} {z0 : Int32} {z1 : Int32} (hq5 : am_nl q5 = true) (hq6 : am_nl q6 = true) (H : (if z0 = z1 then am_X L xs d 0 23 [some (.ref am_scr), some (.ref 0), some (.ref 64), some (.ref 108), some (.int (x4 + 7)), q5, q6] [] am_C0 h o g Q T else Q (some (.int 0)) h o g)) : am_X L xs d 0 899 [some (.ref am_scr), some (.ref 0), some (.ref 64), some (.ref 108), some (.int x4), q5, q6] [.int z1, .int z0] am_C0 h o g Q T := by
  refine xo_11eq rfl (am_sp ?_ ?_ H)
  · intro hc1 H
    refine xo_9 (z := (x4 + 7)) (lv' := [some (.ref am_scr), some (.ref 0), some (.ref 64), some (.ref 108), some (.int (x4 + 7)), q5, q6]) rfl rfl rfl rfl rfl ?_
    refine xo_12 rfl ?_
    exact H
  · intro hc1 H
    refine xo_0 rfl ?_
    refine xo_42 rfl rfl ?_
    exact H
theorem sm_0_963 {x4 : Int32} {x5 : Int32} {q6 : Option Value} {z0 : Int32} (hq6 : am_nl q6 = true) (H : (if (h 64 3) = x5 then (if x5 = 0 then (if (lg_cmp (o 108 0) z0.toInt64) = 0 then am_X L xs (d + 1) 0 23 [some (.ref am_scr), some (.ref 0), some (.ref 64), some (.ref 108), some (.int (x4 + 7)), some (.int x5), some (.int z0)] [] am_C0 h o g Q T else Q (some (.int 0)) h o g) else am_X L xs (d + 1) 0 23 [some (.ref am_scr), some (.ref 0), some (.ref 64), some (.ref 108), some (.int (x4 + 7)), some (.int x5), some (.int z0)] [] am_C0 h o g Q T) else Q (some (.int 0)) h o g)) : am_X L xs (d + 1) 0 963 [some (.ref am_scr), some (.ref 0), some (.ref 64), some (.ref 108), some (.int x4), some (.int x5), q6] [.int z0] am_C0 h o g Q T := by
  refine xo_4 (lv' := [some (.ref am_scr), some (.ref 0), some (.ref 64), some (.ref 108), some (.int x4), some (.int x5), some (.int z0)]) rfl rfl rfl ?_
  refine xo_2 rfl rfl ?_
  refine cl_130_64 rfl hd_0 rfl ?_
  refine xo_2 rfl rfl ?_
  refine xo_13 rfl cf_64_3 ?_
  refine xr_41 rfl ?_
  refine xo_1 rfl rfl ?_
  refine xo_11eq rfl (am_sp ?_ ?_ H)
  · intro hc1 H
    refine xo_1 rfl rfl ?_
    refine xo_10ne rfl (am_sp ?_ ?_ H)
    · intro hc2 H
      refine xo_2 rfl rfl ?_
      refine xo_0 rfl ?_
      refine xo_21 rfl ca_108 (am_ix.lit rfl) ?_
      refine xo_1 rfl rfl ?_
      refine xo_32 rfl ?_
      refine xo_34 rfl ?_
      refine xo_10eq rfl (am_sp ?_ ?_ H)
      · intro hc3 H
        refine xo_12 rfl ?_
        refine xo_9 (z := (x4 + 7)) (lv' := [some (.ref am_scr), some (.ref 0), some (.ref 64), some (.ref 108), some (.int (x4 + 7)), some (.int x5), some (.int z0)]) rfl rfl rfl rfl rfl ?_
        refine xo_12 rfl ?_
        exact H
      · intro hc3 H
        refine xo_0 rfl ?_
        refine xo_42 rfl rfl ?_
        exact H
    · intro hc2 H
      refine xo_12 rfl ?_
      refine xo_9 (z := (x4 + 7)) (lv' := [some (.ref am_scr), some (.ref 0), some (.ref 64), some (.ref 108), some (.int (x4 + 7)), some (.int x5), some (.int z0)]) rfl rfl rfl rfl rfl ?_
      refine xo_12 rfl ?_
      exact H
  · intro hc1 H
    refine xo_0 rfl ?_
    refine xo_42 rfl rfl ?_
    exact H
theorem sm_0_1004 {x4 : Int32} {q5 : Option Value} {q6 : Option Value} {z0 : Int32} {z1 : Int32} (hq5 : am_nl q5 = true) (hq6 : am_nl q6 = true) (H : (if z0 = z1 then am_X L xs d 0 23 [some (.ref am_scr), some (.ref 0), some (.ref 64), some (.ref 108), some (.int (x4 + 7)), q5, q6] [] am_C0 h o g Q T else Q (some (.int 0)) h o g)) : am_X L xs d 0 1004 [some (.ref am_scr), some (.ref 0), some (.ref 64), some (.ref 108), some (.int x4), q5, q6] [.int z1, .int z0] am_C0 h o g Q T := by
  refine xo_11eq rfl (am_sp ?_ ?_ H)
  · intro hc1 H
    refine xo_9 (z := (x4 + 7)) (lv' := [some (.ref am_scr), some (.ref 0), some (.ref 64), some (.ref 108), some (.int (x4 + 7)), q5, q6]) rfl rfl rfl rfl rfl ?_
    refine xo_12 rfl ?_
    exact H
  · intro hc1 H
    refine xo_0 rfl ?_
    refine xo_42 rfl rfl ?_
    exact H
theorem sm_0_1094 {x4 : Int32} {x5 : Int32} {q6 : Option Value} {z0 : Int32} (hq6 : am_nl q6 = true) (H : (if (h 64 3) = x5 then (if x5 = 0 then (if z0 = 0 then (if (lg_cmp (o 108 0) (Int64.ofNat 0)) = 0 then am_X L xs (d + 1) 0 23 [some (.ref am_scr), some (.ref 0), some (.ref 64), some (.ref 108), some (.int (x4 + 7)), some (.int x5), some (.int z0)] [] am_C0 h o g Q T else Q (some (.int 0)) h o g) else (if (lg_cmp (o 108 0) (Int64.ofNat 1)) = 0 then am_X L xs (d + 1) 0 23 [some (.ref am_scr), some (.ref 0), some (.ref 64), some (.ref 108), some (.int (x4 + 7)), some (.int x5), some (.int z0)] [] am_C0 h o g Q T else Q (some (.int 0)) h o g)) else am_X L xs (d + 1) 0 23 [some (.ref am_scr), some (.ref 0), some (.ref 64), some (.ref 108), some (.int (x4 + 7)), some (.int x5), some (.int z0)] [] am_C0 h o g Q T) else Q (some (.int 0)) h o g)) : am_X L xs (d + 1) 0 1094 [some (.ref am_scr), some (.ref 0), some (.ref 64), some (.ref 108), some (.int x4), some (.int x5), q6] [.int z0] am_C0 h o g Q T := by
  refine xo_4 (lv' := [some (.ref am_scr), some (.ref 0), some (.ref 64), some (.ref 108), some (.int x4), some (.int x5), some (.int z0)]) rfl rfl rfl ?_
  refine xo_2 rfl rfl ?_
  refine cl_130_64 rfl hd_0 rfl ?_
  refine xo_2 rfl rfl ?_
  refine xo_13 rfl cf_64_3 ?_
  refine xr_41 rfl ?_
  refine xo_1 rfl rfl ?_
  refine xo_11eq rfl (am_sp ?_ ?_ H)
  · intro hc1 H
    refine xo_1 rfl rfl ?_
    refine xo_10ne rfl (am_sp ?_ ?_ H)
    · intro hc2 H
      refine xo_2 rfl rfl ?_
      refine xo_0 rfl ?_
      refine xo_21 rfl ca_108 (am_ix.lit rfl) ?_
      refine xo_1 rfl rfl ?_
      refine xo_10eq rfl (am_sp ?_ ?_ H)
      · intro hc3 H
        refine xo_31 rfl ?_
        refine xo_34 rfl ?_
        refine xo_10eq rfl (am_sp ?_ ?_ H)
        · intro hc4 H
          refine xo_12 rfl ?_
          refine xo_9 (z := (x4 + 7)) (lv' := [some (.ref am_scr), some (.ref 0), some (.ref 64), some (.ref 108), some (.int (x4 + 7)), some (.int x5), some (.int z0)]) rfl rfl rfl rfl rfl ?_
          refine xo_12 rfl ?_
          exact H
        · intro hc4 H
          refine xo_0 rfl ?_
          refine xo_42 rfl rfl ?_
          exact H
      · intro hc3 H
        refine xo_31 rfl ?_
        refine xo_12 rfl ?_
        refine xo_34 rfl ?_
        refine xo_10eq rfl (am_sp ?_ ?_ H)
        · intro hc5 H
          refine xo_12 rfl ?_
          refine xo_9 (z := (x4 + 7)) (lv' := [some (.ref am_scr), some (.ref 0), some (.ref 64), some (.ref 108), some (.int (x4 + 7)), some (.int x5), some (.int z0)]) rfl rfl rfl rfl rfl ?_
          refine xo_12 rfl ?_
          exact H
        · intro hc5 H
          refine xo_0 rfl ?_
          refine xo_42 rfl rfl ?_
          exact H
    · intro hc2 H
      refine xo_12 rfl ?_
      refine xo_9 (z := (x4 + 7)) (lv' := [some (.ref am_scr), some (.ref 0), some (.ref 64), some (.ref 108), some (.int (x4 + 7)), some (.int x5), some (.int z0)]) rfl rfl rfl rfl rfl ?_
      refine xo_12 rfl ?_
      exact H
  · intro hc1 H
    refine xo_0 rfl ?_
    refine xo_42 rfl rfl ?_
    exact H
theorem sm_0_1169 {x4 : Int32} {x5 : Int32} {q6 : Option Value} {z0 : Int32} (hq6 : am_nl q6 = true) (H : (if (h 64 3) = x5 then (if x5 = 0 then (if (lg_cmp (o 108 0) z0.toInt64) = 0 then am_X L xs (d + 1) 0 23 [some (.ref am_scr), some (.ref 0), some (.ref 64), some (.ref 108), some (.int (x4 + 7)), some (.int x5), some (.int z0)] [] am_C0 h o g Q T else Q (some (.int 0)) h o g) else am_X L xs (d + 1) 0 23 [some (.ref am_scr), some (.ref 0), some (.ref 64), some (.ref 108), some (.int (x4 + 7)), some (.int x5), some (.int z0)] [] am_C0 h o g Q T) else Q (some (.int 0)) h o g)) : am_X L xs (d + 1) 0 1169 [some (.ref am_scr), some (.ref 0), some (.ref 64), some (.ref 108), some (.int x4), some (.int x5), q6] [.int z0] am_C0 h o g Q T := by
  refine xo_4 (lv' := [some (.ref am_scr), some (.ref 0), some (.ref 64), some (.ref 108), some (.int x4), some (.int x5), some (.int z0)]) rfl rfl rfl ?_
  refine xo_2 rfl rfl ?_
  refine cl_130_64 rfl hd_0 rfl ?_
  refine xo_2 rfl rfl ?_
  refine xo_13 rfl cf_64_3 ?_
  refine xr_41 rfl ?_
  refine xo_1 rfl rfl ?_
  refine xo_11eq rfl (am_sp ?_ ?_ H)
  · intro hc1 H
    refine xo_1 rfl rfl ?_
    refine xo_10ne rfl (am_sp ?_ ?_ H)
    · intro hc2 H
      refine xo_2 rfl rfl ?_
      refine xo_0 rfl ?_
      refine xo_21 rfl ca_108 (am_ix.lit rfl) ?_
      refine xo_1 rfl rfl ?_
      refine xo_32 rfl ?_
      refine xo_34 rfl ?_
      refine xo_10eq rfl (am_sp ?_ ?_ H)
      · intro hc3 H
        refine xo_12 rfl ?_
        refine xo_9 (z := (x4 + 7)) (lv' := [some (.ref am_scr), some (.ref 0), some (.ref 64), some (.ref 108), some (.int (x4 + 7)), some (.int x5), some (.int z0)]) rfl rfl rfl rfl rfl ?_
        refine xo_12 rfl ?_
        exact H
      · intro hc3 H
        refine xo_0 rfl ?_
        refine xo_42 rfl rfl ?_
        exact H
    · intro hc2 H
      refine xo_12 rfl ?_
      refine xo_9 (z := (x4 + 7)) (lv' := [some (.ref am_scr), some (.ref 0), some (.ref 64), some (.ref 108), some (.int (x4 + 7)), some (.int x5), some (.int z0)]) rfl rfl rfl rfl rfl ?_
      refine xo_12 rfl ?_
      exact H
  · intro hc1 H
    refine xo_0 rfl ?_
    refine xo_42 rfl rfl ?_
    exact H
theorem sm_0_1237 {x4 : Int32} {x5 : Int32} {q6 : Option Value} {z0 : Int32} (hq6 : am_nl q6 = true) (H : (if (h 64 3) = x5 then (if x5 = 0 then (if (lg_cmp (o 108 0) z0.toInt64) = 0 then am_X L xs (d + 1) 0 23 [some (.ref am_scr), some (.ref 0), some (.ref 64), some (.ref 108), some (.int (x4 + 7)), some (.int x5), some (.int z0)] [] am_C0 h o g Q T else Q (some (.int 0)) h o g) else am_X L xs (d + 1) 0 23 [some (.ref am_scr), some (.ref 0), some (.ref 64), some (.ref 108), some (.int (x4 + 7)), some (.int x5), some (.int z0)] [] am_C0 h o g Q T) else Q (some (.int 0)) h o g)) : am_X L xs (d + 1) 0 1237 [some (.ref am_scr), some (.ref 0), some (.ref 64), some (.ref 108), some (.int x4), some (.int x5), q6] [.int z0] am_C0 h o g Q T := by
  refine xo_4 (lv' := [some (.ref am_scr), some (.ref 0), some (.ref 64), some (.ref 108), some (.int x4), some (.int x5), some (.int z0)]) rfl rfl rfl ?_
  refine xo_2 rfl rfl ?_
  refine cl_130_64 rfl hd_0 rfl ?_
  refine xo_2 rfl rfl ?_
  refine xo_13 rfl cf_64_3 ?_
  refine xr_41 rfl ?_
  refine xo_1 rfl rfl ?_
  refine xo_11eq rfl (am_sp ?_ ?_ H)
  · intro hc1 H
    refine xo_1 rfl rfl ?_
    refine xo_10ne rfl (am_sp ?_ ?_ H)
    · intro hc2 H
      refine xo_2 rfl rfl ?_
      refine xo_0 rfl ?_
      refine xo_21 rfl ca_108 (am_ix.lit rfl) ?_
      refine xo_1 rfl rfl ?_
      refine xo_32 rfl ?_
      refine xo_34 rfl ?_
      refine xo_10eq rfl (am_sp ?_ ?_ H)
      · intro hc3 H
        refine xo_12 rfl ?_
        refine xo_9 (z := (x4 + 7)) (lv' := [some (.ref am_scr), some (.ref 0), some (.ref 64), some (.ref 108), some (.int (x4 + 7)), some (.int x5), some (.int z0)]) rfl rfl rfl rfl rfl ?_
        refine xo_12 rfl ?_
        exact H
      · intro hc3 H
        refine xo_0 rfl ?_
        refine xo_42 rfl rfl ?_
        exact H
    · intro hc2 H
      refine xo_12 rfl ?_
      refine xo_9 (z := (x4 + 7)) (lv' := [some (.ref am_scr), some (.ref 0), some (.ref 64), some (.ref 108), some (.int (x4 + 7)), some (.int x5), some (.int z0)]) rfl rfl rfl rfl rfl ?_
      refine xo_12 rfl ?_
      exact H
  · intro hc1 H
    refine xo_0 rfl ?_
    refine xo_42 rfl rfl ?_
    exact H
theorem sm_0_1329 {x4 : Int32} {x5 : Int32} {q6 : Option Value} {z0 : Int32} (hq6 : am_nl q6 = true) (H : (if (h 64 3) = x5 then (if x5 = 0 then (if (lg_cmp (o 108 0) z0.toInt64) = 0 then am_X L xs (d + 1) 0 23 [some (.ref am_scr), some (.ref 0), some (.ref 64), some (.ref 108), some (.int (x4 + 7)), some (.int x5), some (.int z0)] [] am_C0 h o g Q T else Q (some (.int 0)) h o g) else am_X L xs (d + 1) 0 23 [some (.ref am_scr), some (.ref 0), some (.ref 64), some (.ref 108), some (.int (x4 + 7)), some (.int x5), some (.int z0)] [] am_C0 h o g Q T) else Q (some (.int 0)) h o g)) : am_X L xs (d + 1) 0 1329 [some (.ref am_scr), some (.ref 0), some (.ref 64), some (.ref 108), some (.int x4), some (.int x5), q6] [.int z0] am_C0 h o g Q T := by
  refine xo_4 (lv' := [some (.ref am_scr), some (.ref 0), some (.ref 64), some (.ref 108), some (.int x4), some (.int x5), some (.int z0)]) rfl rfl rfl ?_
  refine xo_2 rfl rfl ?_
  refine cl_130_64 rfl hd_0 rfl ?_
  refine xo_2 rfl rfl ?_
  refine xo_13 rfl cf_64_3 ?_
  refine xr_41 rfl ?_
  refine xo_1 rfl rfl ?_
  refine xo_11eq rfl (am_sp ?_ ?_ H)
  · intro hc1 H
    refine xo_1 rfl rfl ?_
    refine xo_10ne rfl (am_sp ?_ ?_ H)
    · intro hc2 H
      refine xo_2 rfl rfl ?_
      refine xo_0 rfl ?_
      refine xo_21 rfl ca_108 (am_ix.lit rfl) ?_
      refine xo_1 rfl rfl ?_
      refine xo_32 rfl ?_
      refine xo_34 rfl ?_
      refine xo_10eq rfl (am_sp ?_ ?_ H)
      · intro hc3 H
        refine xo_12 rfl ?_
        refine xo_9 (z := (x4 + 7)) (lv' := [some (.ref am_scr), some (.ref 0), some (.ref 64), some (.ref 108), some (.int (x4 + 7)), some (.int x5), some (.int z0)]) rfl rfl rfl rfl rfl ?_
        refine xo_12 rfl ?_
        exact H
      · intro hc3 H
        refine xo_0 rfl ?_
        refine xo_42 rfl rfl ?_
        exact H
    · intro hc2 H
      refine xo_12 rfl ?_
      refine xo_9 (z := (x4 + 7)) (lv' := [some (.ref am_scr), some (.ref 0), some (.ref 64), some (.ref 108), some (.int (x4 + 7)), some (.int x5), some (.int z0)]) rfl rfl rfl rfl rfl ?_
      refine xo_12 rfl ?_
      exact H
  · intro hc1 H
    refine xo_0 rfl ?_
    refine xo_42 rfl rfl ?_
    exact H
theorem sm_0_1409 {x4 : Int32} {x5 : Int32} {q6 : Option Value} {z0 : Int32} (hq6 : am_nl q6 = true) (H : (if (h 64 3) = x5 then (if x5 = 0 then (if (lg_cmp (o 108 0) z0.toInt64) = 0 then am_X L xs (d + 1) 0 23 [some (.ref am_scr), some (.ref 0), some (.ref 64), some (.ref 108), some (.int (x4 + 7)), some (.int x5), some (.int z0)] [] am_C0 h o g Q T else Q (some (.int 0)) h o g) else am_X L xs (d + 1) 0 23 [some (.ref am_scr), some (.ref 0), some (.ref 64), some (.ref 108), some (.int (x4 + 7)), some (.int x5), some (.int z0)] [] am_C0 h o g Q T) else Q (some (.int 0)) h o g)) : am_X L xs (d + 1) 0 1409 [some (.ref am_scr), some (.ref 0), some (.ref 64), some (.ref 108), some (.int x4), some (.int x5), q6] [.int z0] am_C0 h o g Q T := by
  refine xo_4 (lv' := [some (.ref am_scr), some (.ref 0), some (.ref 64), some (.ref 108), some (.int x4), some (.int x5), some (.int z0)]) rfl rfl rfl ?_
  refine xo_2 rfl rfl ?_
  refine cl_130_64 rfl hd_0 rfl ?_
  refine xo_2 rfl rfl ?_
  refine xo_13 rfl cf_64_3 ?_
  refine xr_41 rfl ?_
  refine xo_1 rfl rfl ?_
  refine xo_11eq rfl (am_sp ?_ ?_ H)
  · intro hc1 H
    refine xo_1 rfl rfl ?_
    refine xo_10ne rfl (am_sp ?_ ?_ H)
    · intro hc2 H
      refine xo_2 rfl rfl ?_
      refine xo_0 rfl ?_
      refine xo_21 rfl ca_108 (am_ix.lit rfl) ?_
      refine xo_1 rfl rfl ?_
      refine xo_32 rfl ?_
      refine xo_34 rfl ?_
      refine xo_10eq rfl (am_sp ?_ ?_ H)
      · intro hc3 H
        refine xo_12 rfl ?_
        refine xo_9 (z := (x4 + 7)) (lv' := [some (.ref am_scr), some (.ref 0), some (.ref 64), some (.ref 108), some (.int (x4 + 7)), some (.int x5), some (.int z0)]) rfl rfl rfl rfl rfl ?_
        refine xo_12 rfl ?_
        exact H
      · intro hc3 H
        refine xo_0 rfl ?_
        refine xo_42 rfl rfl ?_
        exact H
    · intro hc2 H
      refine xo_12 rfl ?_
      refine xo_9 (z := (x4 + 7)) (lv' := [some (.ref am_scr), some (.ref 0), some (.ref 64), some (.ref 108), some (.int (x4 + 7)), some (.int x5), some (.int z0)]) rfl rfl rfl rfl rfl ?_
      refine xo_12 rfl ?_
      exact H
  · intro hc1 H
    refine xo_0 rfl ?_
    refine xo_42 rfl rfl ?_
    exact H
theorem sm_0_1477 {x4 : Int32} {x5 : Int32} {q6 : Option Value} {z0 : Int32} (hq6 : am_nl q6 = true) (H : (if (h 64 3) = x5 then (if x5 = 0 then (if (lg_cmp (o 108 0) z0.toInt64) = 0 then am_X L xs (d + 1) 0 23 [some (.ref am_scr), some (.ref 0), some (.ref 64), some (.ref 108), some (.int (x4 + 7)), some (.int x5), some (.int z0)] [] am_C0 h o g Q T else Q (some (.int 0)) h o g) else am_X L xs (d + 1) 0 23 [some (.ref am_scr), some (.ref 0), some (.ref 64), some (.ref 108), some (.int (x4 + 7)), some (.int x5), some (.int z0)] [] am_C0 h o g Q T) else Q (some (.int 0)) h o g)) : am_X L xs (d + 1) 0 1477 [some (.ref am_scr), some (.ref 0), some (.ref 64), some (.ref 108), some (.int x4), some (.int x5), q6] [.int z0] am_C0 h o g Q T := by
  refine xo_4 (lv' := [some (.ref am_scr), some (.ref 0), some (.ref 64), some (.ref 108), some (.int x4), some (.int x5), some (.int z0)]) rfl rfl rfl ?_
  refine xo_2 rfl rfl ?_
  refine cl_130_64 rfl hd_0 rfl ?_
  refine xo_2 rfl rfl ?_
  refine xo_13 rfl cf_64_3 ?_
  refine xr_41 rfl ?_
  refine xo_1 rfl rfl ?_
  refine xo_11eq rfl (am_sp ?_ ?_ H)
  · intro hc1 H
    refine xo_1 rfl rfl ?_
    refine xo_10ne rfl (am_sp ?_ ?_ H)
    · intro hc2 H
      refine xo_2 rfl rfl ?_
      refine xo_0 rfl ?_
      refine xo_21 rfl ca_108 (am_ix.lit rfl) ?_
      refine xo_1 rfl rfl ?_
      refine xo_32 rfl ?_
      refine xo_34 rfl ?_
      refine xo_10eq rfl (am_sp ?_ ?_ H)
      · intro hc3 H
        refine xo_12 rfl ?_
        refine xo_9 (z := (x4 + 7)) (lv' := [some (.ref am_scr), some (.ref 0), some (.ref 64), some (.ref 108), some (.int (x4 + 7)), some (.int x5), some (.int z0)]) rfl rfl rfl rfl rfl ?_
        refine xo_12 rfl ?_
        exact H
      · intro hc3 H
        refine xo_0 rfl ?_
        refine xo_42 rfl rfl ?_
        exact H
    · intro hc2 H
      refine xo_12 rfl ?_
      refine xo_9 (z := (x4 + 7)) (lv' := [some (.ref am_scr), some (.ref 0), some (.ref 64), some (.ref 108), some (.int (x4 + 7)), some (.int x5), some (.int z0)]) rfl rfl rfl rfl rfl ?_
      refine xo_12 rfl ?_
      exact H
  · intro hc1 H
    refine xo_0 rfl ?_
    refine xo_42 rfl rfl ?_
    exact H
theorem sm_0_1557 {x4 : Int32} {x5 : Int32} {q6 : Option Value} {z0 : Int32} (hq6 : am_nl q6 = true) (H : (if (h 64 3) = x5 then (if x5 = 0 then (if (lg_cmp (o 108 0) z0.toInt64) = 0 then am_X L xs (d + 1) 0 23 [some (.ref am_scr), some (.ref 0), some (.ref 64), some (.ref 108), some (.int (x4 + 7)), some (.int x5), some (.int z0)] [] am_C0 h o g Q T else Q (some (.int 0)) h o g) else am_X L xs (d + 1) 0 23 [some (.ref am_scr), some (.ref 0), some (.ref 64), some (.ref 108), some (.int (x4 + 7)), some (.int x5), some (.int z0)] [] am_C0 h o g Q T) else Q (some (.int 0)) h o g)) : am_X L xs (d + 1) 0 1557 [some (.ref am_scr), some (.ref 0), some (.ref 64), some (.ref 108), some (.int x4), some (.int x5), q6] [.int z0] am_C0 h o g Q T := by
  refine xo_4 (lv' := [some (.ref am_scr), some (.ref 0), some (.ref 64), some (.ref 108), some (.int x4), some (.int x5), some (.int z0)]) rfl rfl rfl ?_
  refine xo_2 rfl rfl ?_
  refine cl_130_64 rfl hd_0 rfl ?_
  refine xo_2 rfl rfl ?_
  refine xo_13 rfl cf_64_3 ?_
  refine xr_41 rfl ?_
  refine xo_1 rfl rfl ?_
  refine xo_11eq rfl (am_sp ?_ ?_ H)
  · intro hc1 H
    refine xo_1 rfl rfl ?_
    refine xo_10ne rfl (am_sp ?_ ?_ H)
    · intro hc2 H
      refine xo_2 rfl rfl ?_
      refine xo_0 rfl ?_
      refine xo_21 rfl ca_108 (am_ix.lit rfl) ?_
      refine xo_1 rfl rfl ?_
      refine xo_32 rfl ?_
      refine xo_34 rfl ?_
      refine xo_10eq rfl (am_sp ?_ ?_ H)
      · intro hc3 H
        refine xo_12 rfl ?_
        refine xo_9 (z := (x4 + 7)) (lv' := [some (.ref am_scr), some (.ref 0), some (.ref 64), some (.ref 108), some (.int (x4 + 7)), some (.int x5), some (.int z0)]) rfl rfl rfl rfl rfl ?_
        refine xo_12 rfl ?_
        exact H
      · intro hc3 H
        refine xo_0 rfl ?_
        refine xo_42 rfl rfl ?_
        exact H
    · intro hc2 H
      refine xo_12 rfl ?_
      refine xo_9 (z := (x4 + 7)) (lv' := [some (.ref am_scr), some (.ref 0), some (.ref 64), some (.ref 108), some (.int (x4 + 7)), some (.int x5), some (.int z0)]) rfl rfl rfl rfl rfl ?_
      refine xo_12 rfl ?_
      exact H
  · intro hc1 H
    refine xo_0 rfl ?_
    refine xo_42 rfl rfl ?_
    exact H
theorem sm_0_1637 {x4 : Int32} {x5 : Int32} {q6 : Option Value} {z0 : Int32} (hq6 : am_nl q6 = true) (H : (if (h 64 3) = x5 then (if x5 = 0 then (if (lg_cmp (o 108 0) z0.toInt64) = 0 then am_X L xs (d + 1) 0 23 [some (.ref am_scr), some (.ref 0), some (.ref 64), some (.ref 108), some (.int (x4 + 7)), some (.int x5), some (.int z0)] [] am_C0 h o g Q T else Q (some (.int 0)) h o g) else am_X L xs (d + 1) 0 23 [some (.ref am_scr), some (.ref 0), some (.ref 64), some (.ref 108), some (.int (x4 + 7)), some (.int x5), some (.int z0)] [] am_C0 h o g Q T) else Q (some (.int 0)) h o g)) : am_X L xs (d + 1) 0 1637 [some (.ref am_scr), some (.ref 0), some (.ref 64), some (.ref 108), some (.int x4), some (.int x5), q6] [.int z0] am_C0 h o g Q T := by
  refine xo_4 (lv' := [some (.ref am_scr), some (.ref 0), some (.ref 64), some (.ref 108), some (.int x4), some (.int x5), some (.int z0)]) rfl rfl rfl ?_
  refine xo_2 rfl rfl ?_
  refine cl_130_64 rfl hd_0 rfl ?_
  refine xo_2 rfl rfl ?_
  refine xo_13 rfl cf_64_3 ?_
  refine xr_41 rfl ?_
  refine xo_1 rfl rfl ?_
  refine xo_11eq rfl (am_sp ?_ ?_ H)
  · intro hc1 H
    refine xo_1 rfl rfl ?_
    refine xo_10ne rfl (am_sp ?_ ?_ H)
    · intro hc2 H
      refine xo_2 rfl rfl ?_
      refine xo_0 rfl ?_
      refine xo_21 rfl ca_108 (am_ix.lit rfl) ?_
      refine xo_1 rfl rfl ?_
      refine xo_32 rfl ?_
      refine xo_34 rfl ?_
      refine xo_10eq rfl (am_sp ?_ ?_ H)
      · intro hc3 H
        refine xo_12 rfl ?_
        refine xo_9 (z := (x4 + 7)) (lv' := [some (.ref am_scr), some (.ref 0), some (.ref 64), some (.ref 108), some (.int (x4 + 7)), some (.int x5), some (.int z0)]) rfl rfl rfl rfl rfl ?_
        refine xo_12 rfl ?_
        exact H
      · intro hc3 H
        refine xo_0 rfl ?_
        refine xo_42 rfl rfl ?_
        exact H
    · intro hc2 H
      refine xo_12 rfl ?_
      refine xo_9 (z := (x4 + 7)) (lv' := [some (.ref am_scr), some (.ref 0), some (.ref 64), some (.ref 108), some (.int (x4 + 7)), some (.int x5), some (.int z0)]) rfl rfl rfl rfl rfl ?_
      refine xo_12 rfl ?_
      exact H
  · intro hc1 H
    refine xo_0 rfl ?_
    refine xo_42 rfl rfl ?_
    exact H
theorem sm_0_1755 {x4 : Int32} {x5 : Int32} {q6 : Option Value} {z0 : Int32} (hq6 : am_nl q6 = true) (H : (if (h 64 3) = x5 then (if x5 = 0 then (if (lg_cmp (o 108 0) z0.toInt64) = 0 then am_X L xs (d + 1) 0 23 [some (.ref am_scr), some (.ref 0), some (.ref 64), some (.ref 108), some (.int (x4 + 7)), some (.int x5), some (.int z0)] [] am_C0 h o g Q T else Q (some (.int 0)) h o g) else am_X L xs (d + 1) 0 23 [some (.ref am_scr), some (.ref 0), some (.ref 64), some (.ref 108), some (.int (x4 + 7)), some (.int x5), some (.int z0)] [] am_C0 h o g Q T) else Q (some (.int 0)) h o g)) : am_X L xs (d + 1) 0 1755 [some (.ref am_scr), some (.ref 0), some (.ref 64), some (.ref 108), some (.int x4), some (.int x5), q6] [.int z0] am_C0 h o g Q T := by
  refine xo_4 (lv' := [some (.ref am_scr), some (.ref 0), some (.ref 64), some (.ref 108), some (.int x4), some (.int x5), some (.int z0)]) rfl rfl rfl ?_
  refine xo_2 rfl rfl ?_
  refine cl_130_64 rfl hd_0 rfl ?_
  refine xo_2 rfl rfl ?_
  refine xo_13 rfl cf_64_3 ?_
  refine xr_41 rfl ?_
  refine xo_1 rfl rfl ?_
  refine xo_11eq rfl (am_sp ?_ ?_ H)
  · intro hc1 H
    refine xo_1 rfl rfl ?_
    refine xo_10ne rfl (am_sp ?_ ?_ H)
    · intro hc2 H
      refine xo_2 rfl rfl ?_
      refine xo_0 rfl ?_
      refine xo_21 rfl ca_108 (am_ix.lit rfl) ?_
      refine xo_1 rfl rfl ?_
      refine xo_32 rfl ?_
      refine xo_34 rfl ?_
      refine xo_10eq rfl (am_sp ?_ ?_ H)
      · intro hc3 H
        refine xo_12 rfl ?_
        refine xo_9 (z := (x4 + 7)) (lv' := [some (.ref am_scr), some (.ref 0), some (.ref 64), some (.ref 108), some (.int (x4 + 7)), some (.int x5), some (.int z0)]) rfl rfl rfl rfl rfl ?_
        refine xo_12 rfl ?_
        exact H
      · intro hc3 H
        refine xo_0 rfl ?_
        refine xo_42 rfl rfl ?_
        exact H
    · intro hc2 H
      refine xo_12 rfl ?_
      refine xo_9 (z := (x4 + 7)) (lv' := [some (.ref am_scr), some (.ref 0), some (.ref 64), some (.ref 108), some (.int (x4 + 7)), some (.int x5), some (.int z0)]) rfl rfl rfl rfl rfl ?_
      refine xo_12 rfl ?_
      exact H
  · intro hc1 H
    refine xo_0 rfl ?_
    refine xo_42 rfl rfl ?_
    exact H
theorem sm_0_1835 {x4 : Int32} {x5 : Int32} {q6 : Option Value} {z0 : Int32} (hq6 : am_nl q6 = true) (H : (if (h 64 3) = x5 then (if x5 = 0 then (if z0 = 0 then (if (lg_cmp (o 108 0) (Int64.ofNat 0)) = 0 then am_X L xs (d + 1) 0 23 [some (.ref am_scr), some (.ref 0), some (.ref 64), some (.ref 108), some (.int (x4 + 7)), some (.int x5), some (.int z0)] [] am_C0 h o g Q T else Q (some (.int 0)) h o g) else (if (lg_cmp (o 108 0) (Int64.ofNat 1)) = 0 then am_X L xs (d + 1) 0 23 [some (.ref am_scr), some (.ref 0), some (.ref 64), some (.ref 108), some (.int (x4 + 7)), some (.int x5), some (.int z0)] [] am_C0 h o g Q T else Q (some (.int 0)) h o g)) else am_X L xs (d + 1) 0 23 [some (.ref am_scr), some (.ref 0), some (.ref 64), some (.ref 108), some (.int (x4 + 7)), some (.int x5), some (.int z0)] [] am_C0 h o g Q T) else Q (some (.int 0)) h o g)) : am_X L xs (d + 1) 0 1835 [some (.ref am_scr), some (.ref 0), some (.ref 64), some (.ref 108), some (.int x4), some (.int x5), q6] [.int z0] am_C0 h o g Q T := by
  refine xo_4 (lv' := [some (.ref am_scr), some (.ref 0), some (.ref 64), some (.ref 108), some (.int x4), some (.int x5), some (.int z0)]) rfl rfl rfl ?_
  refine xo_2 rfl rfl ?_
  refine cl_130_64 rfl hd_0 rfl ?_
  refine xo_2 rfl rfl ?_
  refine xo_13 rfl cf_64_3 ?_
  refine xr_41 rfl ?_
  refine xo_1 rfl rfl ?_
  refine xo_11eq rfl (am_sp ?_ ?_ H)
  · intro hc1 H
    refine xo_1 rfl rfl ?_
    refine xo_10ne rfl (am_sp ?_ ?_ H)
    · intro hc2 H
      refine xo_2 rfl rfl ?_
      refine xo_0 rfl ?_
      refine xo_21 rfl ca_108 (am_ix.lit rfl) ?_
      refine xo_1 rfl rfl ?_
      refine xo_10eq rfl (am_sp ?_ ?_ H)
      · intro hc3 H
        refine xo_31 rfl ?_
        refine xo_34 rfl ?_
        refine xo_10eq rfl (am_sp ?_ ?_ H)
        · intro hc4 H
          refine xo_12 rfl ?_
          refine xo_9 (z := (x4 + 7)) (lv' := [some (.ref am_scr), some (.ref 0), some (.ref 64), some (.ref 108), some (.int (x4 + 7)), some (.int x5), some (.int z0)]) rfl rfl rfl rfl rfl ?_
          refine xo_12 rfl ?_
          exact H
        · intro hc4 H
          refine xo_0 rfl ?_
          refine xo_42 rfl rfl ?_
          exact H
      · intro hc3 H
        refine xo_31 rfl ?_
        refine xo_12 rfl ?_
        refine xo_34 rfl ?_
        refine xo_10eq rfl (am_sp ?_ ?_ H)
        · intro hc5 H
          refine xo_12 rfl ?_
          refine xo_9 (z := (x4 + 7)) (lv' := [some (.ref am_scr), some (.ref 0), some (.ref 64), some (.ref 108), some (.int (x4 + 7)), some (.int x5), some (.int z0)]) rfl rfl rfl rfl rfl ?_
          refine xo_12 rfl ?_
          exact H
        · intro hc5 H
          refine xo_0 rfl ?_
          refine xo_42 rfl rfl ?_
          exact H
    · intro hc2 H
      refine xo_12 rfl ?_
      refine xo_9 (z := (x4 + 7)) (lv' := [some (.ref am_scr), some (.ref 0), some (.ref 64), some (.ref 108), some (.int (x4 + 7)), some (.int x5), some (.int z0)]) rfl rfl rfl rfl rfl ?_
      refine xo_12 rfl ?_
      exact H
  · intro hc1 H
    refine xo_0 rfl ?_
    refine xo_42 rfl rfl ?_
    exact H
theorem sm_0_1898 {x4 : Int32} {x5 : Int32} {q6 : Option Value} {z0 : Int32} (hq6 : am_nl q6 = true) (H : (if (h 64 3) = x5 then (if x5 = 0 then (if (lg_cmp (o 108 0) z0.toInt64) = 0 then am_X L xs (d + 1) 0 23 [some (.ref am_scr), some (.ref 0), some (.ref 64), some (.ref 108), some (.int (x4 + 7)), some (.int x5), some (.int z0)] [] am_C0 h o g Q T else Q (some (.int 0)) h o g) else am_X L xs (d + 1) 0 23 [some (.ref am_scr), some (.ref 0), some (.ref 64), some (.ref 108), some (.int (x4 + 7)), some (.int x5), some (.int z0)] [] am_C0 h o g Q T) else Q (some (.int 0)) h o g)) : am_X L xs (d + 1) 0 1898 [some (.ref am_scr), some (.ref 0), some (.ref 64), some (.ref 108), some (.int x4), some (.int x5), q6] [.int z0] am_C0 h o g Q T := by
  refine xo_4 (lv' := [some (.ref am_scr), some (.ref 0), some (.ref 64), some (.ref 108), some (.int x4), some (.int x5), some (.int z0)]) rfl rfl rfl ?_
  refine xo_2 rfl rfl ?_
  refine cl_130_64 rfl hd_0 rfl ?_
  refine xo_2 rfl rfl ?_
  refine xo_13 rfl cf_64_3 ?_
  refine xr_41 rfl ?_
  refine xo_1 rfl rfl ?_
  refine xo_11eq rfl (am_sp ?_ ?_ H)
  · intro hc1 H
    refine xo_1 rfl rfl ?_
    refine xo_10ne rfl (am_sp ?_ ?_ H)
    · intro hc2 H
      refine xo_2 rfl rfl ?_
      refine xo_0 rfl ?_
      refine xo_21 rfl ca_108 (am_ix.lit rfl) ?_
      refine xo_1 rfl rfl ?_
      refine xo_32 rfl ?_
      refine xo_34 rfl ?_
      refine xo_10eq rfl (am_sp ?_ ?_ H)
      · intro hc3 H
        refine xo_12 rfl ?_
        refine xo_9 (z := (x4 + 7)) (lv' := [some (.ref am_scr), some (.ref 0), some (.ref 64), some (.ref 108), some (.int (x4 + 7)), some (.int x5), some (.int z0)]) rfl rfl rfl rfl rfl ?_
        refine xo_12 rfl ?_
        exact H
      · intro hc3 H
        refine xo_0 rfl ?_
        refine xo_42 rfl rfl ?_
        exact H
    · intro hc2 H
      refine xo_12 rfl ?_
      refine xo_9 (z := (x4 + 7)) (lv' := [some (.ref am_scr), some (.ref 0), some (.ref 64), some (.ref 108), some (.int (x4 + 7)), some (.int x5), some (.int z0)]) rfl rfl rfl rfl rfl ?_
      refine xo_12 rfl ?_
      exact H
  · intro hc1 H
    refine xo_0 rfl ?_
    refine xo_42 rfl rfl ?_
    exact H
theorem sm_0_1939 {x4 : Int32} {q5 : Option Value} {q6 : Option Value} (hq5 : am_nl q5 = true) (hq6 : am_nl q6 = true) (H : am_X L xs d 0 23 [some (.ref am_scr), some (.ref 0), some (.ref 64), some (.ref 108), some (.int (x4 + 7)), q5, q6] [] am_C0 h o g Q T) : am_X L xs d 0 1939 [some (.ref am_scr), some (.ref 0), some (.ref 64), some (.ref 108), some (.int x4), q5, q6] [] am_C0 h o g Q T := by
  refine xo_12 rfl ?_
  refine xo_9 (z := (x4 + 7)) (lv' := [some (.ref am_scr), some (.ref 0), some (.ref 64), some (.ref 108), some (.int (x4 + 7)), q5, q6]) rfl rfl rfl rfl rfl ?_
  refine xo_12 rfl ?_
  exact H
theorem sm_0_1950 {x4 : Int32} {q5 : Option Value} {q6 : Option Value} {z0 : Int32} {z1 : Int32} (hq5 : am_nl q5 = true) (hq6 : am_nl q6 = true) (H : (if z0 = z1 then am_X L xs d 0 23 [some (.ref am_scr), some (.ref 0), some (.ref 64), some (.ref 108), some (.int (x4 + 7)), q5, q6] [] am_C0 h o g Q T else Q (some (.int 0)) h o g)) : am_X L xs d 0 1950 [some (.ref am_scr), some (.ref 0), some (.ref 64), some (.ref 108), some (.int x4), q5, q6] [.int z1, .int z0] am_C0 h o g Q T := by
  refine xo_11eq rfl (am_sp ?_ ?_ H)
  · intro hc1 H
    refine xo_9 (z := (x4 + 7)) (lv' := [some (.ref am_scr), some (.ref 0), some (.ref 64), some (.ref 108), some (.int (x4 + 7)), q5, q6]) rfl rfl rfl rfl rfl ?_
    refine xo_12 rfl ?_
    exact H
  · intro hc1 H
    refine xo_0 rfl ?_
    refine xo_42 rfl rfl ?_
    exact H
theorem sm_8 {x1 : Int32} {x2 : Int32} {x3 : Int32} {x4 : Int32} {x5 : Int32} (H : (if 500 < ((h 1 0) + 20) then Q (some (.int (-1))) h o g else am_X L xs d 10 0 [some (.ref 1), some (.int x1), none] [] am_C0 h o g (fun w h' o' g' => am_X L xs (d + 1) 8 22 [some (.ref 0), some (.int x1), some (.int x2), some (.int x3), some (.int x4), some (.int x5)] (w.toList ++ []) am_C0 h' o' g' Q T) T)) : am_X L xs (d + 1) 8 0 [some (.ref 0), some (.int x1), some (.int x2), some (.int x3), some (.int x4), some (.int x5)] [] am_C0 h o g Q T := by
  refine xo_2 rfl rfl ?_
  refine xo_13r rfl cr_0_0 ?_
  refine xo_0 rfl ?_
  refine cl_9_1 rfl hd_8 rfl ?_
  refine xo_2 rfl rfl ?_
  refine xo_13 rfl cf_1_0 ?_
  refine xo_1 rfl rfl ?_
  refine xo_7 rfl rfl ?_
  refine xo_0 rfl ?_
  refine xo_11gt rfl (am_sp ?_ ?_ H)
  · intro hc1 H
    refine xo_0 rfl ?_
    refine xr_42 rfl rfl ?_
    refine xo_10n rfl (by decide) ?_
    refine xo_0 rfl ?_
    refine xo_41 rfl ?_
    exact H
  · intro hc1 H
    refine xo_0 rfl ?_
    refine xo_12 rfl ?_
    refine xr_42 rfl rfl ?_
    refine xo_10 rfl (by decide) ?_
    refine xo_2 rfl rfl ?_
    refine xo_13r rfl cr_0_0 ?_
    refine xo_1 rfl rfl ?_
    refine cl_10_1 rfl hd_8 rfl ?_
    exact H
theorem sm_8_22 {q1 : Option Value} {x2 : Int32} {x3 : Int32} {x4 : Int32} {x5 : Int32} (hq1 : am_nl q1 = true) (H : am_X L xs d 10 0 [some (.ref 1), some (.int x2), none] [] am_C0 h o g (fun w h' o' g' => am_X L xs (d + 1) 8 30 [some (.ref 0), q1, some (.int x2), some (.int x3), some (.int x4), some (.int x5)] (w.toList ++ []) am_C0 h' o' g' Q T) T) : am_X L xs (d + 1) 8 22 [some (.ref 0), q1, some (.int x2), some (.int x3), some (.int x4), some (.int x5)] [] am_C0 h o g Q T := by
  refine xo_2 rfl rfl ?_
  refine xo_13r rfl cr_0_0 ?_
  refine xo_1 rfl rfl ?_
  refine cl_10_1 rfl hd_8 rfl ?_
  exact H
theorem sm_8_30 {q1 : Option Value} {q2 : Option Value} {x3 : Int32} {x4 : Int32} {x5 : Int32} (hq1 : am_nl q1 = true) (hq2 : am_nl q2 = true) (H : am_X L xs d 10 0 [some (.ref 1), some (.int x3), none] [] am_C0 h o g (fun w h' o' g' => am_X L xs (d + 1) 8 38 [some (.ref 0), q1, q2, some (.int x3), some (.int x4), some (.int x5)] (w.toList ++ []) am_C0 h' o' g' Q T) T) : am_X L xs (d + 1) 8 30 [some (.ref 0), q1, q2, some (.int x3), some (.int x4), some (.int x5)] [] am_C0 h o g Q T := by
  refine xo_2 rfl rfl ?_
  refine xo_13r rfl cr_0_0 ?_
  refine xo_1 rfl rfl ?_
  refine cl_10_1 rfl hd_8 rfl ?_
  exact H
theorem sm_8_38 {q1 : Option Value} {q2 : Option Value} {q3 : Option Value} {x4 : Int32} {x5 : Int32} (hq1 : am_nl q1 = true) (hq2 : am_nl q2 = true) (hq3 : am_nl q3 = true) (H : am_X L xs d 10 0 [some (.ref 1), some (.int x4), none] [] am_C0 h o g (fun w h' o' g' => am_X L xs (d + 1) 8 47 [some (.ref 0), q1, q2, q3, some (.int x4), some (.int x5)] (w.toList ++ []) am_C0 h' o' g' Q T) T) : am_X L xs (d + 1) 8 38 [some (.ref 0), q1, q2, q3, some (.int x4), some (.int x5)] [] am_C0 h o g Q T := by
  refine xo_2 rfl rfl ?_
  refine xo_13r rfl cr_0_0 ?_
  refine xo_1 rfl rfl ?_
  refine cl_10_1 rfl hd_8 rfl ?_
  exact H
theorem sm_8_47 {q1 : Option Value} {q2 : Option Value} {q3 : Option Value} {q4 : Option Value} {x5 : Int32} (hq1 : am_nl q1 = true) (hq2 : am_nl q2 = true) (hq3 : am_nl q3 = true) (hq4 : am_nl q4 = true) (H : am_X L xs d 10 0 [some (.ref 1), some (.int x5), none] [] am_C0 h o g (fun w h' o' g' => am_X L xs (d + 1) 8 56 [some (.ref 0), q1, q2, q3, q4, some (.int x5)] (w.toList ++ []) am_C0 h' o' g' Q T) T) : am_X L xs (d + 1) 8 47 [some (.ref 0), q1, q2, q3, q4, some (.int x5)] [] am_C0 h o g Q T := by
  refine xo_2 rfl rfl ?_
  refine xo_13r rfl cr_0_0 ?_
  refine xo_1 rfl rfl ?_
  refine cl_10_1 rfl hd_8 rfl ?_
  exact H
theorem sm_8_56 {q1 : Option Value} {q2 : Option Value} {q3 : Option Value} {q4 : Option Value} {q5 : Option Value} (hq1 : am_nl q1 = true) (hq2 : am_nl q2 = true) (hq3 : am_nl q3 = true) (hq4 : am_nl q4 = true) (hq5 : am_nl q5 = true) (H : Q (some (.int (h 1 0))) h o g) : am_X L xs d 8 56 [some (.ref 0), q1, q2, q3, q4, q5] [] am_C0 h o g Q T := by
  refine xo_2 rfl rfl ?_
  refine xo_13r rfl cr_0_0 ?_
  refine xo_13 rfl cf_1_0 ?_
  refine xo_41 rfl ?_
  exact H
theorem sm_10 {x1 : Int32} (H : (if (h 1 0) < 500 then (am_ix (h 1 0) 500 ∧ (if ((h 1 0) + 1) < 500 then (am_ix ((h 1 0) + 1) 500 ∧ (if (((h 1 0) + 1) + 1) < 500 then (am_ix (((h 1 0) + 1) + 1) 500 ∧ (if ((((h 1 0) + 1) + 1) + 1) < 500 then (am_ix ((((h 1 0) + 1) + 1) + 1) 500 ∧ Q none (am_set (am_set (am_set (am_set (am_set (am_set (am_set (am_set h 2 ((h 1 0).toNatClampNeg) (vp_nar .byte ((x1 >>> (24 &&& 31)).toInt8.toInt32))) 1 0 ((h 1 0) + 1)) 2 (((h 1 0) + 1).toNatClampNeg) (vp_nar .byte ((x1 >>> (16 &&& 31)).toInt8.toInt32))) 1 0 (((h 1 0) + 1) + 1)) 2 ((((h 1 0) + 1) + 1).toNatClampNeg) (vp_nar .byte ((x1 >>> (8 &&& 31)).toInt8.toInt32))) 1 0 ((((h 1 0) + 1) + 1) + 1)) 2 (((((h 1 0) + 1) + 1) + 1).toNatClampNeg) (vp_nar .byte ((x1 >>> (0 &&& 31)).toInt8.toInt32))) 1 0 (((((h 1 0) + 1) + 1) + 1) + 1)) o g) else Q none (am_set (am_set (am_set (am_set (am_set (am_set h 2 ((h 1 0).toNatClampNeg) (vp_nar .byte ((x1 >>> (24 &&& 31)).toInt8.toInt32))) 1 0 ((h 1 0) + 1)) 2 (((h 1 0) + 1).toNatClampNeg) (vp_nar .byte ((x1 >>> (16 &&& 31)).toInt8.toInt32))) 1 0 (((h 1 0) + 1) + 1)) 2 ((((h 1 0) + 1) + 1).toNatClampNeg) (vp_nar .byte ((x1 >>> (8 &&& 31)).toInt8.toInt32))) 1 0 ((((h 1 0) + 1) + 1) + 1)) o g)) else Q none (am_set (am_set (am_set (am_set h 2 ((h 1 0).toNatClampNeg) (vp_nar .byte ((x1 >>> (24 &&& 31)).toInt8.toInt32))) 1 0 ((h 1 0) + 1)) 2 (((h 1 0) + 1).toNatClampNeg) (vp_nar .byte ((x1 >>> (16 &&& 31)).toInt8.toInt32))) 1 0 (((h 1 0) + 1) + 1)) o g)) else Q none (am_set (am_set h 2 ((h 1 0).toNatClampNeg) (vp_nar .byte ((x1 >>> (24 &&& 31)).toInt8.toInt32))) 1 0 ((h 1 0) + 1)) o g)) else Q none h o g)) : am_X L xs d 10 0 [some (.ref 1), some (.int x1), none] [] am_C0 h o g Q T := by
  refine xo_0 rfl ?_
  refine xo_4 (lv' := [some (.ref 1), some (.int x1), some (.int 24)]) rfl rfl rfl ?_
  refine xo_1 rfl rfl ?_
  refine xo_10n rfl (by decide) ?_
  refine xo_2 rfl rfl ?_
  refine xo_13 rfl cf_1_0 ?_
  refine xo_0 rfl ?_
  refine xo_11ge rfl (am_sp ?_ ?_ H)
  · intro hc1 H
    refine xo_2 rfl rfl ?_
    refine xo_13r rfl cr_1_2 ?_
    refine xo_2 rfl rfl ?_
    refine xo_13 rfl cf_1_0 ?_
    refine xo_1 rfl rfl ?_
    refine xo_1 rfl rfl ?_
    refine xo_7 rfl rfl ?_
    refine xo_35 rfl ?_
    obtain ⟨hg2, H⟩ := H
    refine xo_23 rfl ca_2 hg2 ?_
    refine xo_2 rfl rfl ?_
    refine xo_28 rfl rfl ?_
    refine xo_13 rfl cf_1_0 ?_
    refine xo_0 rfl ?_
    refine xo_7 rfl rfl ?_
    refine xo_14 rfl cf_1_0 ?_
    refine xo_9 (z := 16) (lv' := [some (.ref 1), some (.int x1), some (.int 16)]) rfl rfl (by decide) rfl rfl ?_
    refine xo_12 rfl ?_
    refine xo_1 rfl rfl ?_
    refine xo_10n rfl (by decide) ?_
    refine xo_2 rfl rfl ?_
    refine xo_13 rfl cf_1_0 ?_
    refine xo_0 rfl ?_
    refine xo_11ge rfl (am_sp ?_ ?_ H)
    · intro hc3 H
      refine xo_2 rfl rfl ?_
      refine xo_13r rfl cr_1_2 ?_
      refine xo_2 rfl rfl ?_
      refine xo_13 rfl cf_1_0 ?_
      refine xo_1 rfl rfl ?_
      refine xo_1 rfl rfl ?_
      refine xo_7 rfl rfl ?_
      refine xo_35 rfl ?_
      obtain ⟨hg4, H⟩ := H
      refine xo_23 rfl ca_2 hg4 ?_
      refine xo_2 rfl rfl ?_
      refine xo_28 rfl rfl ?_
      refine xo_13 rfl cf_1_0 ?_
      refine xo_0 rfl ?_
      refine xo_7 rfl rfl ?_
      refine xo_14 rfl cf_1_0 ?_
      refine xo_9 (z := 8) (lv' := [some (.ref 1), some (.int x1), some (.int 8)]) rfl rfl (by decide) rfl rfl ?_
      refine xo_12 rfl ?_
      refine xo_1 rfl rfl ?_
      refine xo_10n rfl (by decide) ?_
      refine xo_2 rfl rfl ?_
      refine xo_13 rfl cf_1_0 ?_
      refine xo_0 rfl ?_
      refine xo_11ge rfl (am_sp ?_ ?_ H)
      · intro hc5 H
        refine xo_2 rfl rfl ?_
        refine xo_13r rfl cr_1_2 ?_
        refine xo_2 rfl rfl ?_
        refine xo_13 rfl cf_1_0 ?_
        refine xo_1 rfl rfl ?_
        refine xo_1 rfl rfl ?_
        refine xo_7 rfl rfl ?_
        refine xo_35 rfl ?_
        obtain ⟨hg6, H⟩ := H
        refine xo_23 rfl ca_2 hg6 ?_
        refine xo_2 rfl rfl ?_
        refine xo_28 rfl rfl ?_
        refine xo_13 rfl cf_1_0 ?_
        refine xo_0 rfl ?_
        refine xo_7 rfl rfl ?_
        refine xo_14 rfl cf_1_0 ?_
        refine xo_9 (z := 0) (lv' := [some (.ref 1), some (.int x1), some (.int 0)]) rfl rfl (by decide) rfl rfl ?_
        refine xo_12 rfl ?_
        refine xo_1 rfl rfl ?_
        refine xo_10n rfl (by decide) ?_
        refine xo_2 rfl rfl ?_
        refine xo_13 rfl cf_1_0 ?_
        refine xo_0 rfl ?_
        refine xo_11ge rfl (am_sp ?_ ?_ H)
        · intro hc7 H
          refine xo_2 rfl rfl ?_
          refine xo_13r rfl cr_1_2 ?_
          refine xo_2 rfl rfl ?_
          refine xo_13 rfl cf_1_0 ?_
          refine xo_1 rfl rfl ?_
          refine xo_1 rfl rfl ?_
          refine xo_7 rfl rfl ?_
          refine xo_35 rfl ?_
          obtain ⟨hg8, H⟩ := H
          refine xo_23 rfl ca_2 hg8 ?_
          refine xo_2 rfl rfl ?_
          refine xo_28 rfl rfl ?_
          refine xo_13 rfl cf_1_0 ?_
          refine xo_0 rfl ?_
          refine xo_7 rfl rfl ?_
          refine xo_14 rfl cf_1_0 ?_
          refine xo_9 (z := (-8)) (lv' := [some (.ref 1), some (.int x1), some (.int (-8))]) rfl rfl (by decide) rfl rfl ?_
          refine xo_12 rfl ?_
          refine xo_1 rfl rfl ?_
          refine xo_10 rfl (by decide) ?_
          refine xo_44 rfl ?_
          exact H
        · intro hc7 H
          refine xo_44 rfl ?_
          exact H
      · intro hc5 H
        refine xo_44 rfl ?_
        exact H
    · intro hc3 H
      refine xo_44 rfl ?_
      exact H
  · intro hc1 H
    refine xo_44 rfl ?_
    exact H
theorem sm_11 (H : Q (some (.int (h 1 1))) h o g) : am_X L xs d 11 0 [some (.ref 0)] [] am_C0 h o g Q T := by
  refine xo_2 rfl rfl ?_
  refine xo_13r rfl cr_0_0 ?_
  refine xo_13 rfl cf_1_1 ?_
  refine xo_41 rfl ?_
  exact H
theorem sm_12 (H : (if (h 23 0) = 0 then Q (some (.int (-1))) h o g else Q (some (.int ((h 23 0) - 1))) (am_set h 23 0 ((h 23 0) - 1)) o g)) : am_X L xs d 12 0 [some (.ref 0)] [] am_C0 h o g Q T := by
  refine xo_2 rfl rfl ?_
  refine xo_13r rfl cr_0_3 ?_
  refine xo_13 rfl cf_23_0 ?_
  refine xo_10ne rfl (am_sp ?_ ?_ H)
  · intro hc1 H
    refine xo_0 rfl ?_
    refine xo_41 rfl ?_
    exact H
  · intro hc1 H
    refine xo_2 rfl rfl ?_
    refine xo_13r rfl cr_0_3 ?_
    refine xo_28 rfl rfl ?_
    refine xo_13 rfl cf_23_0 ?_
    refine xo_0 rfl ?_
    refine xo_7 rfl rfl ?_
    refine xo_14 rfl cf_23_0 ?_
    refine xo_2 rfl rfl ?_
    refine xo_13r rfl cr_0_3 ?_
    refine xo_13 rfl cf_23_0 ?_
    refine xo_41 rfl ?_
    exact H
theorem sm_13 (H : am_X L xs d 13 16 [some (.ref 0), some (.int ((1 <<< ((h 3 1) &&& 31)) - 1)), some (.int ((1 <<< ((h 3 1) &&& 31)) - 1)), some (.int 0)] [] am_C0 h o g Q T) : am_X L xs d 13 0 [some (.ref 0), none, none, none] [] am_C0 h o g Q T := by
  refine xo_0 rfl ?_
  refine xo_2 rfl rfl ?_
  refine xo_13r rfl cr_0_1 ?_
  refine xo_13 rfl cf_3_1 ?_
  refine xo_7 rfl rfl ?_
  refine xo_0 rfl ?_
  refine xo_7 rfl rfl ?_
  refine xo_4 (lv' := [some (.ref 0), some (.int ((1 <<< ((h 3 1) &&& 31)) - 1)), none, none]) rfl rfl rfl ?_
  refine xo_1 rfl rfl ?_
  refine xo_4 (lv' := [some (.ref 0), some (.int ((1 <<< ((h 3 1) &&& 31)) - 1)), some (.int ((1 <<< ((h 3 1) &&& 31)) - 1)), none]) rfl rfl rfl ?_
  refine xo_0 rfl ?_
  refine xo_4 (lv' := [some (.ref 0), some (.int ((1 <<< ((h 3 1) &&& 31)) - 1)), some (.int ((1 <<< ((h 3 1) &&& 31)) - 1)), some (.int 0)]) rfl rfl rfl ?_
  exact H
theorem sm_13_16 {x1 : Int32} {x2 : Int32} {x3 : Int32} (H : (if x1 < x3 then Q (some (.int x2)) h o g else (if (fn_14 x3) < (fn_14 x2) then am_X L xs d 15 0 [some (.ref 0), some (.int x3), none] [] am_C0 h o g (fun w h' o' g' => am_X L xs (d + 1) 13 37 [some (.ref 0), some (.int x1), some (.int x2), some (.int x3)] (w.toList ++ []) am_C0 h' o' g' Q T) T else am_X L xs (d + 1) 13 16 [some (.ref 0), some (.int x1), some (.int x2), some (.int (x3 + 1))] [] am_C0 h o g Q T))) : am_X L xs (d + 1) 13 16 [some (.ref 0), some (.int x1), some (.int x2), some (.int x3)] [] am_C0 h o g Q T := by
  refine xo_1 rfl rfl ?_
  refine xo_1 rfl rfl ?_
  refine xo_11gt rfl (am_sp ?_ ?_ H)
  · intro hc1 H
    refine xo_1 rfl rfl ?_
    refine xo_41 rfl ?_
    exact H
  · intro hc1 H
    refine xo_1 rfl rfl ?_
    refine cl_14 rfl hd_13 rfl (sf_14 ?_)
    show am_X L xs (d + 1) 13 25 [some (.ref 0), some (.int x1), some (.int x2), some (.int x3)] [.int (fn_14 x3)] am_C0 h o g Q T
    refine xo_1 rfl rfl ?_
    refine cl_14 rfl hd_13 rfl (sf_14 ?_)
    show am_X L xs (d + 1) 13 29 [some (.ref 0), some (.int x1), some (.int x2), some (.int x3)] [.int (fn_14 x2), .int (fn_14 x3)] am_C0 h o g Q T
    refine xo_11ge rfl (am_sp ?_ ?_ H)
    · intro hc2 H
      refine xo_2 rfl rfl ?_
      refine xo_1 rfl rfl ?_
      refine cl_15_0 rfl hd_13 rfl ?_
      exact H
    · intro hc2 H
      refine xo_9 (z := (x3 + 1)) (lv' := [some (.ref 0), some (.int x1), some (.int x2), some (.int (x3 + 1))]) rfl rfl rfl rfl rfl ?_
      refine xo_12 rfl ?_
      exact H
theorem sm_13_37 {x1 : Int32} {x2 : Int32} {x3 : Int32} {z0 : Int32} (H : (if z0 = 0 then am_X L xs d 13 16 [some (.ref 0), some (.int x1), some (.int x2), some (.int (x3 + 1))] [] am_C0 h o g Q T else am_X L xs d 13 16 [some (.ref 0), some (.int x1), some (.int x3), some (.int (x3 + 1))] [] am_C0 h o g Q T)) : am_X L xs d 13 37 [some (.ref 0), some (.int x1), some (.int x2), some (.int x3)] [.int z0] am_C0 h o g Q T := by
  refine xo_10eq rfl (am_sp ?_ ?_ H)
  · intro hc1 H
    refine xo_9 (z := (x3 + 1)) (lv' := [some (.ref 0), some (.int x1), some (.int x2), some (.int (x3 + 1))]) rfl rfl rfl rfl rfl ?_
    refine xo_12 rfl ?_
    exact H
  · intro hc1 H
    refine xo_1 rfl rfl ?_
    refine xo_4 (lv' := [some (.ref 0), some (.int x1), some (.int x3), some (.int x3)]) rfl rfl rfl ?_
    refine xo_9 (z := (x3 + 1)) (lv' := [some (.ref 0), some (.int x1), some (.int x3), some (.int (x3 + 1))]) rfl rfl rfl rfl rfl ?_
    refine xo_12 rfl ?_
    exact H
theorem sm_15 {x1 : Int32} (H : am_X L xs d 15 2 [some (.ref 0), some (.int x1), some (.int 0)] [] am_C0 h o g Q T) : am_X L xs d 15 0 [some (.ref 0), some (.int x1), none] [] am_C0 h o g Q T := by
  refine xo_0 rfl ?_
  refine xo_4 (lv' := [some (.ref 0), some (.int x1), some (.int 0)]) rfl rfl rfl ?_
  exact H
theorem sm_15_2 {x1 : Int32} {x2 : Int32} (H : (if x2 < (h 3 0) then am_X L xs d 16 0 [some (.ref 23), some (.int x2), some (.int x1), some (.ref 61), none, none] [] am_C0 h o g (fun w h' o' g' => am_X L xs (d + 1) 15 26 [some (.ref 0), some (.int x1), some (.int x2)] (w.toList ++ []) am_C0 h' o' g' Q T) T else Q (some (.int 1)) h o g)) : am_X L xs (d + 1) 15 2 [some (.ref 0), some (.int x1), some (.int x2)] [] am_C0 h o g Q T := by
  refine xo_1 rfl rfl ?_
  refine xo_2 rfl rfl ?_
  refine xo_13r rfl cr_0_1 ?_
  refine xo_13 rfl cf_3_0 ?_
  refine xo_11ge rfl (am_sp ?_ ?_ H)
  · intro hc1 H
    refine xo_2 rfl rfl ?_
    refine xo_13r rfl cr_0_3 ?_
    refine xo_1 rfl rfl ?_
    refine xo_1 rfl rfl ?_
    refine xo_2 rfl rfl ?_
    refine xo_13r rfl cr_0_8 ?_
    refine cl_16_23_61 rfl hd_15 rfl ?_
    exact H
  · intro hc1 H
    refine xo_0 rfl ?_
    refine xo_42 rfl rfl ?_
    exact H
theorem sm_15_26 {x1 : Int32} {x2 : Int32} (H : (if (h 61 1) < (h 61 0) then Q (some (.int 0)) h o g else am_X L xs (d + 1) 15 2 [some (.ref 0), some (.int x1), some (.int (x2 + 1))] [] am_C0 h o g Q T)) : am_X L xs (d + 1) 15 26 [some (.ref 0), some (.int x1), some (.int x2)] [] am_C0 h o g Q T := by
  refine xo_2 rfl rfl ?_
  refine xo_13r rfl cr_0_8 ?_
  refine cl_19_61 rfl hd_15 rfl ?_
  refine xo_2 rfl rfl ?_
  refine xo_13 rfl cf_61_0 ?_
  refine xo_2 rfl rfl ?_
  refine xo_13 rfl cf_61_1 ?_
  refine xo_11le rfl (am_sp ?_ ?_ H)
  · intro hc1 H
    refine xo_0 rfl ?_
    refine xo_12 rfl ?_
    refine xr_42 rfl rfl ?_
    refine xo_10n rfl (by decide) ?_
    refine xo_0 rfl ?_
    refine xo_42 rfl rfl ?_
    exact H
  · intro hc1 H
    refine xo_0 rfl ?_
    refine xr_42 rfl rfl ?_
    refine xo_10 rfl (by decide) ?_
    refine xo_9 (z := (x2 + 1)) (lv' := [some (.ref 0), some (.int x1), some (.int (x2 + 1))]) rfl rfl rfl rfl rfl ?_
    refine xo_12 rfl ?_
    exact H
theorem sm_16 {x1 : Int32} {x2 : Int32} (H : (am_ix x1 5 ∧ am_X L xs (d + 1) 16 25 [some (.ref 23), some (.int x1), some (.int x2), some (.ref 61), some (.int 0), none] [] am_C0 (am_set (am_set h 61 0 (h 4 x1.toNatClampNeg)) 61 1 (h 5 x1.toNatClampNeg)) o g Q T)) : am_X L xs (d + 1) 16 0 [some (.ref 23), some (.int x1), some (.int x2), some (.ref 61), none, none] [] am_C0 h o g Q T := by
  refine xo_2 rfl rfl ?_
  refine xo_2 rfl rfl ?_
  refine xo_13r rfl cr_23_11 ?_
  refine xo_13r rfl cr_3_3 ?_
  refine xo_1 rfl rfl ?_
  obtain ⟨hg1, H⟩ := H
  refine xo_17 rfl ca_4 hg1 ?_
  refine xo_2 rfl rfl ?_
  refine xo_13r rfl cr_23_11 ?_
  refine xo_13r rfl cr_3_4 ?_
  refine xo_1 rfl rfl ?_
  refine xo_17 rfl ca_5 hg1 ?_
  refine cl_17_61 rfl hd_16 rfl ?_
  refine xo_2 rfl rfl ?_
  refine xo_1 rfl rfl ?_
  refine xo_14 rfl cf_61_0 ?_
  refine xo_2 rfl rfl ?_
  refine xo_1 rfl rfl ?_
  refine xo_14 rfl cf_61_1 ?_
  refine xr_44 rfl ?_
  refine xo_0 rfl ?_
  refine xo_4 (lv' := [some (.ref 23), some (.int x1), some (.int x2), some (.ref 61), some (.int 0), none]) rfl rfl rfl ?_
  exact H
theorem sm_16_25 {x1 : Int32} {x2 : Int32} {x4 : Int32} {q5 : Option Value} (hq5 : am_nl q5 = true) (H : (if x4 < (h 23 0) then (am_ix x4 80 ∧ (if (h 25 x4.toNatClampNeg) = (-1) then (if (h 26 x4.toNatClampNeg) = x1 then (if (h 28 x4.toNatClampNeg) = 0 then am_X L xs (d + 1) 16 25 [some (.ref 23), some (.int x1), some (.int x2), some (.ref 61), some (.int (x4 + 1)), some (.int 1)] [] am_C0 (am_set h 61 1 (if ((h 27 x4.toNatClampNeg) - 1) < (h 61 1) then ((h 27 x4.toNatClampNeg) - 1) else (h 61 1))) o g Q T else am_X L xs (d + 1) 16 25 [some (.ref 23), some (.int x1), some (.int x2), some (.ref 61), some (.int (x4 + 1)), some (.int 1)] [] am_C0 (am_set h 61 0 (if (h 61 0) < (h 27 x4.toNatClampNeg) then (h 27 x4.toNatClampNeg) else (h 61 0))) o g Q T) else am_X L xs (d + 1) 16 25 [some (.ref 23), some (.int x1), some (.int x2), some (.ref 61), some (.int (x4 + 1)), some (.int 1)] [] am_C0 h o g Q T) else (if (x2 &&& (1 <<< ((h 25 x4.toNatClampNeg) &&& 31))) = 0 then (if (h 26 x4.toNatClampNeg) = x1 then (if (h 28 x4.toNatClampNeg) = 0 then am_X L xs (d + 1) 16 25 [some (.ref 23), some (.int x1), some (.int x2), some (.ref 61), some (.int (x4 + 1)), some (.int 1)] [] am_C0 (am_set h 61 1 (if ((h 27 x4.toNatClampNeg) - 1) < (h 61 1) then ((h 27 x4.toNatClampNeg) - 1) else (h 61 1))) o g Q T else am_X L xs (d + 1) 16 25 [some (.ref 23), some (.int x1), some (.int x2), some (.ref 61), some (.int (x4 + 1)), some (.int 1)] [] am_C0 (am_set h 61 0 (if (h 61 0) < (h 27 x4.toNatClampNeg) then (h 27 x4.toNatClampNeg) else (h 61 0))) o g Q T) else am_X L xs (d + 1) 16 25 [some (.ref 23), some (.int x1), some (.int x2), some (.ref 61), some (.int (x4 + 1)), some (.int 1)] [] am_C0 h o g Q T) else am_X L xs (d + 1) 16 25 [some (.ref 23), some (.int x1), some (.int x2), some (.ref 61), some (.int (x4 + 1)), some (.int 0)] [] am_C0 h o g Q T))) else Q none h o g)) : am_X L xs (d + 1) 16 25 [some (.ref 23), some (.int x1), some (.int x2), some (.ref 61), some (.int x4), q5] [] am_C0 h o g Q T := by
  refine xo_1 rfl rfl ?_
  refine xo_2 rfl rfl ?_
  refine xo_13 rfl cf_23_0 ?_
  refine xo_11ge rfl (am_sp ?_ ?_ H)
  · intro hc1 H
    refine xo_2 rfl rfl ?_
    refine xo_13r rfl cr_23_2 ?_
    refine xo_1 rfl rfl ?_
    obtain ⟨hg2, H⟩ := H
    refine xo_17 rfl ca_25 hg2 ?_
    refine xo_0 rfl ?_
    refine xo_11eq rfl (am_sp ?_ ?_ H)
    · intro hc3 H
      refine xo_0 rfl ?_
      refine xo_12 rfl ?_
      refine xo_4 (lv' := [some (.ref 23), some (.int x1), some (.int x2), some (.ref 61), some (.int x4), some (.int 1)]) rfl rfl rfl ?_
      refine xo_1 rfl rfl ?_
      refine xo_10n rfl (by decide) ?_
      refine xo_2 rfl rfl ?_
      refine xo_13r rfl cr_23_3 ?_
      refine xo_1 rfl rfl ?_
      refine xo_17 rfl ca_26 hg2 ?_
      refine xo_1 rfl rfl ?_
      refine xo_11ne rfl (am_sp ?_ ?_ H)
      · intro hc4 H
        refine xo_2 rfl rfl ?_
        refine xo_2 rfl rfl ?_
        refine xo_13r rfl cr_23_4 ?_
        refine xo_1 rfl rfl ?_
        refine xo_17 rfl ca_27 hg2 ?_
        refine xo_2 rfl rfl ?_
        refine xo_13r rfl cr_23_5 ?_
        refine xo_1 rfl rfl ?_
        refine xo_18b rfl ca_28 hg2 ?_
        refine cl_18_61 rfl hd_16 rfl ?_
        refine xo_1 rfl rfl ?_
        refine xo_10eq rfl (am_sp ?_ ?_ H)
        · intro hc5 H
          refine xo_2 rfl rfl ?_
          refine xo_2 rfl rfl ?_
          refine xo_13 rfl cf_61_1 ?_
          refine xo_1 rfl rfl ?_
          refine xo_0 rfl ?_
          refine xo_7 rfl rfl ?_
          refine xo_47n rfl (Nat.le_of_ble_eq_true rfl) ?_
          refine xo_14 rfl cf_61_1 ?_
          refine xr_44 rfl ?_
          refine xo_9 (z := (x4 + 1)) (lv' := [some (.ref 23), some (.int x1), some (.int x2), some (.ref 61), some (.int (x4 + 1)), some (.int 1)]) rfl rfl rfl rfl rfl ?_
          refine xo_12 rfl ?_
          exact H
        · intro hc5 H
          refine xo_2 rfl rfl ?_
          refine xo_2 rfl rfl ?_
          refine xo_13 rfl cf_61_0 ?_
          refine xo_1 rfl rfl ?_
          refine xo_47x rfl (Nat.le_of_ble_eq_true rfl) ?_
          refine xo_14 rfl cf_61_0 ?_
          refine xo_12 rfl ?_
          refine xr_44 rfl ?_
          refine xo_9 (z := (x4 + 1)) (lv' := [some (.ref 23), some (.int x1), some (.int x2), some (.ref 61), some (.int (x4 + 1)), some (.int 1)]) rfl rfl rfl rfl rfl ?_
          refine xo_12 rfl ?_
          exact H
      · intro hc4 H
        refine xo_9 (z := (x4 + 1)) (lv' := [some (.ref 23), some (.int x1), some (.int x2), some (.ref 61), some (.int (x4 + 1)), some (.int 1)]) rfl rfl rfl rfl rfl ?_
        refine xo_12 rfl ?_
        exact H
    · intro hc3 H
      refine xo_1 rfl rfl ?_
      refine xo_0 rfl ?_
      refine xo_2 rfl rfl ?_
      refine xo_13r rfl cr_23_2 ?_
      refine xo_1 rfl rfl ?_
      refine xo_17 rfl ca_25 hg2 ?_
      refine xo_7 rfl rfl ?_
      refine xo_7 rfl rfl ?_
      refine xo_10ne rfl (am_sp ?_ ?_ H)
      · intro hc6 H
        refine xo_0 rfl ?_
        refine xo_12 rfl ?_
        refine xo_4 (lv' := [some (.ref 23), some (.int x1), some (.int x2), some (.ref 61), some (.int x4), some (.int 1)]) rfl rfl rfl ?_
        refine xo_1 rfl rfl ?_
        refine xo_10n rfl (by decide) ?_
        refine xo_2 rfl rfl ?_
        refine xo_13r rfl cr_23_3 ?_
        refine xo_1 rfl rfl ?_
        refine xo_17 rfl ca_26 hg2 ?_
        refine xo_1 rfl rfl ?_
        refine xo_11ne rfl (am_sp ?_ ?_ H)
        · intro hc7 H
          refine xo_2 rfl rfl ?_
          refine xo_2 rfl rfl ?_
          refine xo_13r rfl cr_23_4 ?_
          refine xo_1 rfl rfl ?_
          refine xo_17 rfl ca_27 hg2 ?_
          refine xo_2 rfl rfl ?_
          refine xo_13r rfl cr_23_5 ?_
          refine xo_1 rfl rfl ?_
          refine xo_18b rfl ca_28 hg2 ?_
          refine cl_18_61 rfl hd_16 rfl ?_
          refine xo_1 rfl rfl ?_
          refine xo_10eq rfl (am_sp ?_ ?_ H)
          · intro hc8 H
            refine xo_2 rfl rfl ?_
            refine xo_2 rfl rfl ?_
            refine xo_13 rfl cf_61_1 ?_
            refine xo_1 rfl rfl ?_
            refine xo_0 rfl ?_
            refine xo_7 rfl rfl ?_
            refine xo_47n rfl (Nat.le_of_ble_eq_true rfl) ?_
            refine xo_14 rfl cf_61_1 ?_
            refine xr_44 rfl ?_
            refine xo_9 (z := (x4 + 1)) (lv' := [some (.ref 23), some (.int x1), some (.int x2), some (.ref 61), some (.int (x4 + 1)), some (.int 1)]) rfl rfl rfl rfl rfl ?_
            refine xo_12 rfl ?_
            exact H
          · intro hc8 H
            refine xo_2 rfl rfl ?_
            refine xo_2 rfl rfl ?_
            refine xo_13 rfl cf_61_0 ?_
            refine xo_1 rfl rfl ?_
            refine xo_47x rfl (Nat.le_of_ble_eq_true rfl) ?_
            refine xo_14 rfl cf_61_0 ?_
            refine xo_12 rfl ?_
            refine xr_44 rfl ?_
            refine xo_9 (z := (x4 + 1)) (lv' := [some (.ref 23), some (.int x1), some (.int x2), some (.ref 61), some (.int (x4 + 1)), some (.int 1)]) rfl rfl rfl rfl rfl ?_
            refine xo_12 rfl ?_
            exact H
        · intro hc7 H
          refine xo_9 (z := (x4 + 1)) (lv' := [some (.ref 23), some (.int x1), some (.int x2), some (.ref 61), some (.int (x4 + 1)), some (.int 1)]) rfl rfl rfl rfl rfl ?_
          refine xo_12 rfl ?_
          exact H
      · intro hc6 H
        refine xo_0 rfl ?_
        refine xo_4 (lv' := [some (.ref 23), some (.int x1), some (.int x2), some (.ref 61), some (.int x4), some (.int 0)]) rfl rfl rfl ?_
        refine xo_1 rfl rfl ?_
        refine xo_10 rfl (by decide) ?_
        refine xo_9 (z := (x4 + 1)) (lv' := [some (.ref 23), some (.int x1), some (.int x2), some (.ref 61), some (.int (x4 + 1)), some (.int 0)]) rfl rfl rfl rfl rfl ?_
        refine xo_12 rfl ?_
        exact H
  · intro hc1 H
    refine xo_44 rfl ?_
    exact H
theorem sm_20 (H : am_X L xs d 21 0 [some (.ref 34), some (.ref 23), none] [] am_C0 h o g (fun w h' o' g' => am_X L xs (d + 1) 20 11 [some (.ref 0)] (w.toList ++ []) am_C0 h' o' g' Q T) T) : am_X L xs (d + 1) 20 0 [some (.ref 0)] [] am_C0 h o g Q T := by
  refine xo_2 rfl rfl ?_
  refine xo_13r rfl cr_0_4 ?_
  refine xo_2 rfl rfl ?_
  refine xo_13r rfl cr_0_3 ?_
  refine cl_21_34_23 rfl hd_20 rfl ?_
  exact H
theorem sm_20_11 (H : Q none (am_set h 0 5 1) o g) : am_X L xs d 20 11 [some (.ref 0)] [] am_C0 h o g Q T := by
  refine xo_2 rfl rfl ?_
  refine xo_0 rfl ?_
  refine xo_15 rfl cf_0_5 rfl ?_
  refine xo_44 rfl ?_
  exact H
theorem sm_21_23_34 (H : am_X L xs d 21 10 [some (.ref 23), some (.ref 34), some (.int 0)] [] am_C0 (am_set h 23 0 (h 34 0)) o g Q T) : am_X L xs d 21 0 [some (.ref 23), some (.ref 34), none] [] am_C0 h o g Q T := by
  refine xo_2 rfl rfl ?_
  refine xo_2 rfl rfl ?_
  refine xo_13 rfl cf_34_0 ?_
  refine xo_14 rfl cf_23_0 ?_
  refine xo_0 rfl ?_
  refine xo_4 (lv' := [some (.ref 23), some (.ref 34), some (.int 0)]) rfl rfl rfl ?_
  exact H
theorem sm_21_23_34_10 {x2 : Int32} (H : (if x2 < (h 23 0) then (am_ix x2 80 ∧ am_X L xs d 21 10 [some (.ref 23), some (.ref 34), some (.int (x2 + 1))] [] am_C0 (am_set (am_set (am_set (am_set (am_set (am_set h 24 x2.toNatClampNeg (h 35 x2.toNatClampNeg)) 25 x2.toNatClampNeg (h 36 x2.toNatClampNeg)) 26 x2.toNatClampNeg (h 37 x2.toNatClampNeg)) 27 x2.toNatClampNeg (h 38 x2.toNatClampNeg)) 28 x2.toNatClampNeg (vp_nar .boolean (h 39 x2.toNatClampNeg))) 29 x2.toNatClampNeg (h 40 x2.toNatClampNeg)) o g Q T) else Q none (am_cpy (am_cpy (am_cpy (am_cpy h 41 30 0 0 5) 42 31 0 0 5) 43 32 0 0 5) 44 33 0 0 3) o g)) : am_X L xs d 21 10 [some (.ref 23), some (.ref 34), some (.int x2)] [] am_C0 h o g Q T := by
  refine xo_1 rfl rfl ?_
  refine xo_2 rfl rfl ?_
  refine xo_13 rfl cf_23_0 ?_
  refine xo_11ge rfl (am_sp ?_ ?_ H)
  · intro hc1 H
    refine xo_2 rfl rfl ?_
    refine xo_13r rfl cr_23_1 ?_
    refine xo_1 rfl rfl ?_
    refine xo_2 rfl rfl ?_
    refine xo_13r rfl cr_34_1 ?_
    refine xo_1 rfl rfl ?_
    obtain ⟨hg2, H⟩ := H
    refine xo_17 rfl ca_35 hg2 ?_
    refine xo_22 rfl ca_24 hg2 ?_
    refine xo_2 rfl rfl ?_
    refine xo_13r rfl cr_23_2 ?_
    refine xo_1 rfl rfl ?_
    refine xo_2 rfl rfl ?_
    refine xo_13r rfl cr_34_2 ?_
    refine xo_1 rfl rfl ?_
    refine xo_17 rfl ca_36 hg2 ?_
    refine xo_22 rfl ca_25 hg2 ?_
    refine xo_2 rfl rfl ?_
    refine xo_13r rfl cr_23_3 ?_
    refine xo_1 rfl rfl ?_
    refine xo_2 rfl rfl ?_
    refine xo_13r rfl cr_34_3 ?_
    refine xo_1 rfl rfl ?_
    refine xo_17 rfl ca_37 hg2 ?_
    refine xo_22 rfl ca_26 hg2 ?_
    refine xo_2 rfl rfl ?_
    refine xo_13r rfl cr_23_4 ?_
    refine xo_1 rfl rfl ?_
    refine xo_2 rfl rfl ?_
    refine xo_13r rfl cr_34_4 ?_
    refine xo_1 rfl rfl ?_
    refine xo_17 rfl ca_38 hg2 ?_
    refine xo_22 rfl ca_27 hg2 ?_
    refine xo_2 rfl rfl ?_
    refine xo_13r rfl cr_23_5 ?_
    refine xo_1 rfl rfl ?_
    refine xo_2 rfl rfl ?_
    refine xo_13r rfl cr_34_5 ?_
    refine xo_1 rfl rfl ?_
    refine xo_18b rfl ca_39 hg2 ?_
    refine xo_23b rfl ca_28 hg2 ?_
    refine xo_2 rfl rfl ?_
    refine xo_13r rfl cr_23_6 ?_
    refine xo_1 rfl rfl ?_
    refine xo_2 rfl rfl ?_
    refine xo_13r rfl cr_34_6 ?_
    refine xo_1 rfl rfl ?_
    refine xo_17 rfl ca_40 hg2 ?_
    refine xo_22 rfl ca_29 hg2 ?_
    refine xo_9 (z := (x2 + 1)) (lv' := [some (.ref 23), some (.ref 34), some (.int (x2 + 1))]) rfl rfl rfl rfl rfl ?_
    refine xo_12 rfl ?_
    exact H
  · intro hc1 H
    refine xo_2 rfl rfl ?_
    refine xo_13r rfl cr_34_7 ?_
    refine xo_0 rfl ?_
    refine xo_2 rfl rfl ?_
    refine xo_13r rfl cr_23_7 ?_
    refine xo_0 rfl ?_
    refine xo_0 rfl ?_
    refine xo_48 rfl ca_41 ca_30 (by decide) (Nat.le_of_ble_eq_true rfl) ?_
    refine xo_2 rfl rfl ?_
    refine xo_13r rfl cr_34_8 ?_
    refine xo_0 rfl ?_
    refine xo_2 rfl rfl ?_
    refine xo_13r rfl cr_23_8 ?_
    refine xo_0 rfl ?_
    refine xo_0 rfl ?_
    refine xo_48 rfl ca_42 ca_31 (by decide) (Nat.le_of_ble_eq_true rfl) ?_
    refine xo_2 rfl rfl ?_
    refine xo_13r rfl cr_34_9 ?_
    refine xo_0 rfl ?_
    refine xo_2 rfl rfl ?_
    refine xo_13r rfl cr_23_9 ?_
    refine xo_0 rfl ?_
    refine xo_0 rfl ?_
    refine xo_48 rfl ca_43 ca_32 (by decide) (Nat.le_of_ble_eq_true rfl) ?_
    refine xo_2 rfl rfl ?_
    refine xo_13r rfl cr_34_10 ?_
    refine xo_0 rfl ?_
    refine xo_2 rfl rfl ?_
    refine xo_13r rfl cr_23_10 ?_
    refine xo_0 rfl ?_
    refine xo_0 rfl ?_
    refine xo_48 rfl ca_44 ca_33 (by decide) (Nat.le_of_ble_eq_true rfl) ?_
    refine xo_44 rfl ?_
    exact H
theorem sm_21_34_23 (H : am_X L xs d 21 10 [some (.ref 34), some (.ref 23), some (.int 0)] [] am_C0 (am_set h 34 0 (h 23 0)) o g Q T) : am_X L xs d 21 0 [some (.ref 34), some (.ref 23), none] [] am_C0 h o g Q T := by
  refine xo_2 rfl rfl ?_
  refine xo_2 rfl rfl ?_
  refine xo_13 rfl cf_23_0 ?_
  refine xo_14 rfl cf_34_0 ?_
  refine xo_0 rfl ?_
  refine xo_4 (lv' := [some (.ref 34), some (.ref 23), some (.int 0)]) rfl rfl rfl ?_
  exact H
theorem sm_21_34_23_10 {x2 : Int32} (H : (if x2 < (h 34 0) then (am_ix x2 80 ∧ am_X L xs d 21 10 [some (.ref 34), some (.ref 23), some (.int (x2 + 1))] [] am_C0 (am_set (am_set (am_set (am_set (am_set (am_set h 35 x2.toNatClampNeg (h 24 x2.toNatClampNeg)) 36 x2.toNatClampNeg (h 25 x2.toNatClampNeg)) 37 x2.toNatClampNeg (h 26 x2.toNatClampNeg)) 38 x2.toNatClampNeg (h 27 x2.toNatClampNeg)) 39 x2.toNatClampNeg (vp_nar .boolean (h 28 x2.toNatClampNeg))) 40 x2.toNatClampNeg (h 29 x2.toNatClampNeg)) o g Q T) else Q none (am_cpy (am_cpy (am_cpy (am_cpy h 30 41 0 0 5) 31 42 0 0 5) 32 43 0 0 5) 33 44 0 0 3) o g)) : am_X L xs d 21 10 [some (.ref 34), some (.ref 23), some (.int x2)] [] am_C0 h o g Q T := by
  refine xo_1 rfl rfl ?_
  refine xo_2 rfl rfl ?_
  refine xo_13 rfl cf_34_0 ?_
  refine xo_11ge rfl (am_sp ?_ ?_ H)
  · intro hc1 H
    refine xo_2 rfl rfl ?_
    refine xo_13r rfl cr_34_1 ?_
    refine xo_1 rfl rfl ?_
    refine xo_2 rfl rfl ?_
    refine xo_13r rfl cr_23_1 ?_
    refine xo_1 rfl rfl ?_
    obtain ⟨hg2, H⟩ := H
    refine xo_17 rfl ca_24 hg2 ?_
    refine xo_22 rfl ca_35 hg2 ?_
    refine xo_2 rfl rfl ?_
    refine xo_13r rfl cr_34_2 ?_
    refine xo_1 rfl rfl ?_
    refine xo_2 rfl rfl ?_
    refine xo_13r rfl cr_23_2 ?_
    refine xo_1 rfl rfl ?_
    refine xo_17 rfl ca_25 hg2 ?_
    refine xo_22 rfl ca_36 hg2 ?_
    refine xo_2 rfl rfl ?_
    refine xo_13r rfl cr_34_3 ?_
    refine xo_1 rfl rfl ?_
    refine xo_2 rfl rfl ?_
    refine xo_13r rfl cr_23_3 ?_
    refine xo_1 rfl rfl ?_
    refine xo_17 rfl ca_26 hg2 ?_
    refine xo_22 rfl ca_37 hg2 ?_
    refine xo_2 rfl rfl ?_
    refine xo_13r rfl cr_34_4 ?_
    refine xo_1 rfl rfl ?_
    refine xo_2 rfl rfl ?_
    refine xo_13r rfl cr_23_4 ?_
    refine xo_1 rfl rfl ?_
    refine xo_17 rfl ca_27 hg2 ?_
    refine xo_22 rfl ca_38 hg2 ?_
    refine xo_2 rfl rfl ?_
    refine xo_13r rfl cr_34_5 ?_
    refine xo_1 rfl rfl ?_
    refine xo_2 rfl rfl ?_
    refine xo_13r rfl cr_23_5 ?_
    refine xo_1 rfl rfl ?_
    refine xo_18b rfl ca_28 hg2 ?_
    refine xo_23b rfl ca_39 hg2 ?_
    refine xo_2 rfl rfl ?_
    refine xo_13r rfl cr_34_6 ?_
    refine xo_1 rfl rfl ?_
    refine xo_2 rfl rfl ?_
    refine xo_13r rfl cr_23_6 ?_
    refine xo_1 rfl rfl ?_
    refine xo_17 rfl ca_29 hg2 ?_
    refine xo_22 rfl ca_40 hg2 ?_
    refine xo_9 (z := (x2 + 1)) (lv' := [some (.ref 34), some (.ref 23), some (.int (x2 + 1))]) rfl rfl rfl rfl rfl ?_
    refine xo_12 rfl ?_
    exact H
  · intro hc1 H
    refine xo_2 rfl rfl ?_
    refine xo_13r rfl cr_23_7 ?_
    refine xo_0 rfl ?_
    refine xo_2 rfl rfl ?_
    refine xo_13r rfl cr_34_7 ?_
    refine xo_0 rfl ?_
    refine xo_0 rfl ?_
    refine xo_48 rfl ca_30 ca_41 (by decide) (Nat.le_of_ble_eq_true rfl) ?_
    refine xo_2 rfl rfl ?_
    refine xo_13r rfl cr_23_8 ?_
    refine xo_0 rfl ?_
    refine xo_2 rfl rfl ?_
    refine xo_13r rfl cr_34_8 ?_
    refine xo_0 rfl ?_
    refine xo_0 rfl ?_
    refine xo_48 rfl ca_31 ca_42 (by decide) (Nat.le_of_ble_eq_true rfl) ?_
    refine xo_2 rfl rfl ?_
    refine xo_13r rfl cr_23_9 ?_
    refine xo_0 rfl ?_
    refine xo_2 rfl rfl ?_
    refine xo_13r rfl cr_34_9 ?_
    refine xo_0 rfl ?_
    refine xo_0 rfl ?_
    refine xo_48 rfl ca_32 ca_43 (by decide) (Nat.le_of_ble_eq_true rfl) ?_
    refine xo_2 rfl rfl ?_
    refine xo_13r rfl cr_23_10 ?_
    refine xo_0 rfl ?_
    refine xo_2 rfl rfl ?_
    refine xo_13r rfl cr_34_10 ?_
    refine xo_0 rfl ?_
    refine xo_0 rfl ?_
    refine xo_48 rfl ca_33 ca_44 (by decide) (Nat.le_of_ble_eq_true rfl) ?_
    refine xo_44 rfl ?_
    exact H
theorem sm_22 (H : (if (h 0 5) = 0 then Q (some (.int 0)) h o g else am_X L xs d 21 0 [some (.ref 23), some (.ref 34), none] [] am_C0 h o g (fun w h' o' g' => am_X L xs (d + 1) 22 20 [some (.ref 0)] (w.toList ++ []) am_C0 h' o' g' Q T) T)) : am_X L xs (d + 1) 22 0 [some (.ref 0)] [] am_C0 h o g Q T := by
  refine xo_2 rfl rfl ?_
  refine xo_13 rfl cf_0_5 ?_
  refine xo_10ne rfl (am_sp ?_ ?_ H)
  · intro hc1 H
    refine xo_0 rfl ?_
    refine xo_42 rfl rfl ?_
    exact H
  · intro hc1 H
    refine xo_2 rfl rfl ?_
    refine xo_13r rfl cr_0_3 ?_
    refine xo_2 rfl rfl ?_
    refine xo_13r rfl cr_0_4 ?_
    refine cl_21_23_34 rfl hd_22 rfl ?_
    exact H
theorem sm_22_20 {q0 : Option Value} (hq0 : am_nl q0 = true) (H : Q (some (.int 1)) h o g) : am_X L xs d 22 20 [q0] [] am_C0 h o g Q T := by
  refine xo_0 rfl ?_
  refine xo_42 rfl rfl ?_
  exact H
theorem wr_23 {x1 : Int32} (H : am_X L xs d 24 0 [some (.ref 0), some (.int x1), none] [] am_C0 h o g (fun w h' o' g' => ∃ y, w = some (.int y) ∧ Q (some (.int 0)) h' (am_setL o' 108 0 y.toInt64) g') (fun E h' o' g' => if E = 1 then Q (some (.int 1)) h' o' g' else T E h' o' g')) : am_X L xs (d + 1) 23 0 [some (.ref 0), some (.int x1), some (.ref 108), none] [] am_C0 h o g Q T := by
  refine xo_2 rfl rfl ?_
  refine xo_0 rfl ?_
  refine xo_2 rfl rfl ?_
  refine xo_1 rfl rfl ?_
  refine ch_24 rfl rfl (am_X.mono H ?_ ?_)
  · rintro w h o g ⟨y, rfl, H⟩
    show am_X L xs (d + 1) 23 7 [some (.ref 0), some (.int x1), some (.ref 108), none] [.int y, .int 0, .ref 108] am_C0 h o g Q T
    refine xo_32 rfl ?_
    refine xo_26 rfl ca_108 (am_ix.lit rfl) ?_
    refine xo_12 rfl ?_
    refine xo_0 rfl ?_
    refine xo_41 rfl ?_
    exact H
  · intro E h o g H
    by_cases hE1 : E = 1
    · rw [if_pos hE1] at H
      subst hE1
      show am_X L xs (d + 1) 23 13 [some (.ref 0), some (.int x1), some (.ref 108), none] [] am_C0 h o g Q T
      refine xo_0 rfl ?_
      refine xo_41 rfl ?_
      exact H
    · rw [if_neg hE1] at H
      have e : am_hand (am_hd 23) 4 E = none := by
        show am_hand [(0, 9, 1, 13, 3)] 4 E = none
        simp only [am_hand]
        rw [if_neg (fun q => hE1 q.2.2.symm)]
      show (match am_hand (am_hd 23) 4 E with | none => T E h o g | some (pc', j) => am_X L xs (d + 1) 23 pc' (am_st1 [some (.ref 0), some (.int x1), some (.ref 108), none] j none) [] am_C0 h o g Q T)
      rw [e]
      exact H
theorem sm_24 {x1 : Int32} (H : (if x1 < 0 then T 1 h o (g + 1) else (if (h 1 0) < x1 then T 1 h o (g + 1) else am_X L xs d 25 0 [some (.ref 1), some (.ref 13), some (.int x1), none] [] am_C0 h o g (fun w h' o' g' => am_X L xs (d + 1) 24 37 [some (.ref 0), some (.int x1), none] (w.toList ++ []) am_C0 h' o' g' Q T) T))) : am_X L xs (d + 1) 24 0 [some (.ref 0), some (.int x1), none] [] am_C0 h o g Q T := by
  refine xo_1 rfl rfl ?_
  refine xo_10lt rfl (am_sp ?_ ?_ H)
  · intro hc1 H
    refine xo_45 rfl (Nat.le_of_ble_eq_true rfl) ?_
    exact H
  · intro hc1 H
    refine xo_1 rfl rfl ?_
    refine xo_2 rfl rfl ?_
    refine xo_13r rfl cr_0_0 ?_
    refine xo_13 rfl cf_1_0 ?_
    refine xo_11le rfl (am_sp ?_ ?_ H)
    · intro hc2 H
      refine xo_45 rfl (Nat.le_of_ble_eq_true rfl) ?_
      exact H
    · intro hc2 H
      refine xo_2 rfl rfl ?_
      refine xo_13r rfl cr_0_0 ?_
      refine xo_2 rfl rfl ?_
      refine xo_13r rfl cr_0_2 ?_
      refine xo_1 rfl rfl ?_
      refine cl_25_1_13 rfl hd_24 rfl ?_
      exact H
theorem sm_24_37 {q1 : Option Value} {q2 : Option Value} {z0 : Int32} (hq1 : am_nl q1 = true) (hq2 : am_nl q2 = true) (H : (if z0 = 0 then Q (some (.int 0)) (am_set (am_set (am_set (am_set (am_set (am_set (am_set (am_set (am_set (am_set (am_set (am_set (am_set (am_set (am_set (am_set (am_set (am_set (am_cpy (am_cpy (am_cpy (am_cpy (am_cpy (am_cpy (am_cpy (am_cpy (am_cpy (am_set (am_set (am_set h 3 0 (h 13 0)) 3 1 (h 13 1)) 3 2 (h 13 2)) 14 4 0 0 5) 15 5 0 0 5) 16 6 0 0 5) 17 7 0 0 5) 18 8 0 0 5) 19 9 0 0 5) 20 10 0 0 5) 21 11 0 0 5) 22 12 0 0 4) 23 0 0) 30 0 0) 31 0 0) 32 0 60) 30 1 0) 31 1 0) 32 1 60) 30 2 0) 31 2 0) 32 2 60) 30 3 0) 31 3 0) 32 3 60) 30 4 0) 31 4 0) 32 4 60) 0 5 0) 0 11 0) o g else Q (some (.int z0)) (am_set h 33 0 ((h 33 0) + 1)) o g)) : am_X L xs (d + 1) 24 37 [some (.ref 0), q1, q2] [.int z0] am_C0 h o g Q T := by
  refine xo_4 (lv' := [some (.ref 0), q1, some (.int z0)]) rfl hq1 rfl ?_
  refine xo_1 rfl rfl ?_
  refine xo_10eq rfl (am_sp ?_ ?_ H)
  · intro hc1 H
    refine xo_2 rfl rfl ?_
    refine xo_13r rfl cr_0_1 ?_
    refine xo_2 rfl rfl ?_
    refine xo_13r rfl cr_0_2 ?_
    refine cl_39_3_13 rfl hd_24 rfl ?_
    refine xo_2 rfl rfl ?_
    refine xo_2 rfl rfl ?_
    refine xo_13 rfl cf_13_0 ?_
    refine xo_14 rfl cf_3_0 ?_
    refine xo_2 rfl rfl ?_
    refine xo_2 rfl rfl ?_
    refine xo_13 rfl cf_13_1 ?_
    refine xo_14 rfl cf_3_1 ?_
    refine xo_2 rfl rfl ?_
    refine xo_2 rfl rfl ?_
    refine xo_13 rfl cf_13_2 ?_
    refine xo_14 rfl cf_3_2 ?_
    refine xo_2 rfl rfl ?_
    refine xo_13r rfl cr_13_3 ?_
    refine xo_0 rfl ?_
    refine xo_2 rfl rfl ?_
    refine xo_13r rfl cr_3_3 ?_
    refine xo_0 rfl ?_
    refine xo_0 rfl ?_
    refine xo_48 rfl ca_14 ca_4 (by decide) (Nat.le_of_ble_eq_true rfl) ?_
    refine xo_2 rfl rfl ?_
    refine xo_13r rfl cr_13_4 ?_
    refine xo_0 rfl ?_
    refine xo_2 rfl rfl ?_
    refine xo_13r rfl cr_3_4 ?_
    refine xo_0 rfl ?_
    refine xo_0 rfl ?_
    refine xo_48 rfl ca_15 ca_5 (by decide) (Nat.le_of_ble_eq_true rfl) ?_
    refine xo_2 rfl rfl ?_
    refine xo_13r rfl cr_13_5 ?_
    refine xo_0 rfl ?_
    refine xo_2 rfl rfl ?_
    refine xo_13r rfl cr_3_5 ?_
    refine xo_0 rfl ?_
    refine xo_0 rfl ?_
    refine xo_48 rfl ca_16 ca_6 (by decide) (Nat.le_of_ble_eq_true rfl) ?_
    refine xo_2 rfl rfl ?_
    refine xo_13r rfl cr_13_6 ?_
    refine xo_0 rfl ?_
    refine xo_2 rfl rfl ?_
    refine xo_13r rfl cr_3_6 ?_
    refine xo_0 rfl ?_
    refine xo_0 rfl ?_
    refine xo_48 rfl ca_17 ca_7 (by decide) (Nat.le_of_ble_eq_true rfl) ?_
    refine xo_2 rfl rfl ?_
    refine xo_13r rfl cr_13_7 ?_
    refine xo_0 rfl ?_
    refine xo_2 rfl rfl ?_
    refine xo_13r rfl cr_3_7 ?_
    refine xo_0 rfl ?_
    refine xo_0 rfl ?_
    refine xo_48 rfl ca_18 ca_8 (by decide) (Nat.le_of_ble_eq_true rfl) ?_
    refine xo_2 rfl rfl ?_
    refine xo_13r rfl cr_13_8 ?_
    refine xo_0 rfl ?_
    refine xo_2 rfl rfl ?_
    refine xo_13r rfl cr_3_8 ?_
    refine xo_0 rfl ?_
    refine xo_0 rfl ?_
    refine xo_48 rfl ca_19 ca_9 (by decide) (Nat.le_of_ble_eq_true rfl) ?_
    refine xo_2 rfl rfl ?_
    refine xo_13r rfl cr_13_9 ?_
    refine xo_0 rfl ?_
    refine xo_2 rfl rfl ?_
    refine xo_13r rfl cr_3_9 ?_
    refine xo_0 rfl ?_
    refine xo_0 rfl ?_
    refine xo_48 rfl ca_20 ca_10 (by decide) (Nat.le_of_ble_eq_true rfl) ?_
    refine xo_2 rfl rfl ?_
    refine xo_13r rfl cr_13_10 ?_
    refine xo_0 rfl ?_
    refine xo_2 rfl rfl ?_
    refine xo_13r rfl cr_3_10 ?_
    refine xo_0 rfl ?_
    refine xo_0 rfl ?_
    refine xo_48 rfl ca_21 ca_11 (by decide) (Nat.le_of_ble_eq_true rfl) ?_
    refine xo_2 rfl rfl ?_
    refine xo_13r rfl cr_13_11 ?_
    refine xo_0 rfl ?_
    refine xo_2 rfl rfl ?_
    refine xo_13r rfl cr_3_11 ?_
    refine xo_0 rfl ?_
    refine xo_0 rfl ?_
    refine xo_48 rfl ca_22 ca_12 (by decide) (Nat.le_of_ble_eq_true rfl) ?_
    refine xr_44 rfl ?_
    refine xo_2 rfl rfl ?_
    refine xo_13r rfl cr_0_3 ?_
    refine cl_40_23 rfl hd_24 rfl ?_
    refine xo_2 rfl rfl ?_
    refine xo_0 rfl ?_
    refine xo_14 rfl cf_23_0 ?_
    refine xo_0 rfl ?_
    refine xo_4 (lv' := [some (.ref 23), some (.int 0)]) rfl rfl rfl ?_
    refine xo_1 rfl rfl ?_
    refine xo_0 rfl ?_
    refine xo_11n rfl (by decide) ?_
    refine xo_2 rfl rfl ?_
    refine xo_13r rfl cr_23_7 ?_
    refine xo_1 rfl rfl ?_
    refine xo_0 rfl ?_
    refine xo_22 rfl ca_30 (am_ix.lit rfl) ?_
    refine xo_2 rfl rfl ?_
    refine xo_13r rfl cr_23_8 ?_
    refine xo_1 rfl rfl ?_
    refine xo_0 rfl ?_
    refine xo_22 rfl ca_31 (am_ix.lit rfl) ?_
    refine xo_2 rfl rfl ?_
    refine xo_13r rfl cr_23_9 ?_
    refine xo_1 rfl rfl ?_
    refine xo_0 rfl ?_
    refine xo_22 rfl ca_32 (am_ix.lit rfl) ?_
    refine xo_9 (z := 1) (lv' := [some (.ref 23), some (.int 1)]) rfl rfl (by decide) rfl rfl ?_
    refine xo_12 rfl ?_
    refine xo_1 rfl rfl ?_
    refine xo_0 rfl ?_
    refine xo_11n rfl (by decide) ?_
    refine xo_2 rfl rfl ?_
    refine xo_13r rfl cr_23_7 ?_
    refine xo_1 rfl rfl ?_
    refine xo_0 rfl ?_
    refine xo_22 rfl ca_30 (am_ix.lit rfl) ?_
    refine xo_2 rfl rfl ?_
    refine xo_13r rfl cr_23_8 ?_
    refine xo_1 rfl rfl ?_
    refine xo_0 rfl ?_
    refine xo_22 rfl ca_31 (am_ix.lit rfl) ?_
    refine xo_2 rfl rfl ?_
    refine xo_13r rfl cr_23_9 ?_
    refine xo_1 rfl rfl ?_
    refine xo_0 rfl ?_
    refine xo_22 rfl ca_32 (am_ix.lit rfl) ?_
    refine xo_9 (z := 2) (lv' := [some (.ref 23), some (.int 2)]) rfl rfl (by decide) rfl rfl ?_
    refine xo_12 rfl ?_
    refine xo_1 rfl rfl ?_
    refine xo_0 rfl ?_
    refine xo_11n rfl (by decide) ?_
    refine xo_2 rfl rfl ?_
    refine xo_13r rfl cr_23_7 ?_
    refine xo_1 rfl rfl ?_
    refine xo_0 rfl ?_
    refine xo_22 rfl ca_30 (am_ix.lit rfl) ?_
    refine xo_2 rfl rfl ?_
    refine xo_13r rfl cr_23_8 ?_
    refine xo_1 rfl rfl ?_
    refine xo_0 rfl ?_
    refine xo_22 rfl ca_31 (am_ix.lit rfl) ?_
    refine xo_2 rfl rfl ?_
    refine xo_13r rfl cr_23_9 ?_
    refine xo_1 rfl rfl ?_
    refine xo_0 rfl ?_
    refine xo_22 rfl ca_32 (am_ix.lit rfl) ?_
    refine xo_9 (z := 3) (lv' := [some (.ref 23), some (.int 3)]) rfl rfl (by decide) rfl rfl ?_
    refine xo_12 rfl ?_
    refine xo_1 rfl rfl ?_
    refine xo_0 rfl ?_
    refine xo_11n rfl (by decide) ?_
    refine xo_2 rfl rfl ?_
    refine xo_13r rfl cr_23_7 ?_
    refine xo_1 rfl rfl ?_
    refine xo_0 rfl ?_
    refine xo_22 rfl ca_30 (am_ix.lit rfl) ?_
    refine xo_2 rfl rfl ?_
    refine xo_13r rfl cr_23_8 ?_
    refine xo_1 rfl rfl ?_
    refine xo_0 rfl ?_
    refine xo_22 rfl ca_31 (am_ix.lit rfl) ?_
    refine xo_2 rfl rfl ?_
    refine xo_13r rfl cr_23_9 ?_
    refine xo_1 rfl rfl ?_
    refine xo_0 rfl ?_
    refine xo_22 rfl ca_32 (am_ix.lit rfl) ?_
    refine xo_9 (z := 4) (lv' := [some (.ref 23), some (.int 4)]) rfl rfl (by decide) rfl rfl ?_
    refine xo_12 rfl ?_
    refine xo_1 rfl rfl ?_
    refine xo_0 rfl ?_
    refine xo_11n rfl (by decide) ?_
    refine xo_2 rfl rfl ?_
    refine xo_13r rfl cr_23_7 ?_
    refine xo_1 rfl rfl ?_
    refine xo_0 rfl ?_
    refine xo_22 rfl ca_30 (am_ix.lit rfl) ?_
    refine xo_2 rfl rfl ?_
    refine xo_13r rfl cr_23_8 ?_
    refine xo_1 rfl rfl ?_
    refine xo_0 rfl ?_
    refine xo_22 rfl ca_31 (am_ix.lit rfl) ?_
    refine xo_2 rfl rfl ?_
    refine xo_13r rfl cr_23_9 ?_
    refine xo_1 rfl rfl ?_
    refine xo_0 rfl ?_
    refine xo_22 rfl ca_32 (am_ix.lit rfl) ?_
    refine xo_9 (z := 5) (lv' := [some (.ref 23), some (.int 5)]) rfl rfl (by decide) rfl rfl ?_
    refine xo_12 rfl ?_
    refine xo_1 rfl rfl ?_
    refine xo_0 rfl ?_
    refine xo_11 rfl (by decide) ?_
    refine xr_44 rfl ?_
    refine xo_2 rfl rfl ?_
    refine xo_0 rfl ?_
    refine xo_15 rfl cf_0_5 rfl ?_
    refine xo_2 rfl rfl ?_
    refine xo_0 rfl ?_
    refine xo_15 rfl cf_0_11 rfl ?_
    refine xo_0 rfl ?_
    refine xo_41 rfl ?_
    exact H
  · intro hc1 H
    refine xo_2 rfl rfl ?_
    refine xo_13r rfl cr_0_3 ?_
    refine xo_0 rfl ?_
    refine cl_38_23 rfl hd_24 rfl ?_
    refine xo_2 rfl rfl ?_
    refine xo_13r rfl cr_23_10 ?_
    refine xo_1 rfl rfl ?_
    refine xo_29 rfl ⟨rfl, rfl⟩ ?_
    refine xo_17 rfl ca_33 (am_ix.lit rfl) ?_
    refine xo_0 rfl ?_
    refine xo_7 rfl rfl ?_
    refine xo_22 rfl ca_33 (am_ix.lit rfl) ?_
    refine xo_0 rfl ?_
    refine xr_41 rfl ?_
    refine xo_30 rfl rfl ?_
    refine xo_1 rfl rfl ?_
    refine xo_41 rfl ?_
    exact H
theorem sm_25 {x2 : Int32} (H : am_X L xs d 27 0 [some (.ref 1)] [] am_C0 (am_set (am_set (am_set (am_set (am_set (am_set (am_set (am_set (am_set (am_set (am_set (am_set (am_set h 13 0 0) 13 1 0) 13 2 0) 22 0 0) 22 1 0) 22 2 0) 22 3 0) 1 0 0) 1 4 x2) 1 5 0) 1 3 0) 1 1 (-1)) 1 8 0) o g (fun w h' o' g' => am_X L xs (d + 1) 25 38 [some (.ref 1), some (.ref 13), some (.int x2), none] (w.toList ++ []) am_C0 h' o' g' Q T) T) : am_X L xs (d + 1) 25 0 [some (.ref 1), some (.ref 13), some (.int x2), none] [] am_C0 h o g Q T := by
  refine xo_2 rfl rfl ?_
  refine cl_26_13 rfl hd_25 rfl ?_
  refine xo_2 rfl rfl ?_
  refine xo_0 rfl ?_
  refine xo_14 rfl cf_13_0 ?_
  refine xo_2 rfl rfl ?_
  refine xo_0 rfl ?_
  refine xo_14 rfl cf_13_1 ?_
  refine xo_2 rfl rfl ?_
  refine xo_0 rfl ?_
  refine xo_14 rfl cf_13_2 ?_
  refine xo_0 rfl ?_
  refine xo_4 (lv' := [some (.ref 13), some (.int 0)]) rfl rfl rfl ?_
  refine xo_1 rfl rfl ?_
  refine xo_0 rfl ?_
  refine xo_11n rfl (by decide) ?_
  refine xo_2 rfl rfl ?_
  refine xo_13r rfl cr_13_11 ?_
  refine xo_1 rfl rfl ?_
  refine xo_0 rfl ?_
  refine xo_22 rfl ca_22 (am_ix.lit rfl) ?_
  refine xo_9 (z := 1) (lv' := [some (.ref 13), some (.int 1)]) rfl rfl (by decide) rfl rfl ?_
  refine xo_12 rfl ?_
  refine xo_1 rfl rfl ?_
  refine xo_0 rfl ?_
  refine xo_11n rfl (by decide) ?_
  refine xo_2 rfl rfl ?_
  refine xo_13r rfl cr_13_11 ?_
  refine xo_1 rfl rfl ?_
  refine xo_0 rfl ?_
  refine xo_22 rfl ca_22 (am_ix.lit rfl) ?_
  refine xo_9 (z := 2) (lv' := [some (.ref 13), some (.int 2)]) rfl rfl (by decide) rfl rfl ?_
  refine xo_12 rfl ?_
  refine xo_1 rfl rfl ?_
  refine xo_0 rfl ?_
  refine xo_11n rfl (by decide) ?_
  refine xo_2 rfl rfl ?_
  refine xo_13r rfl cr_13_11 ?_
  refine xo_1 rfl rfl ?_
  refine xo_0 rfl ?_
  refine xo_22 rfl ca_22 (am_ix.lit rfl) ?_
  refine xo_9 (z := 3) (lv' := [some (.ref 13), some (.int 3)]) rfl rfl (by decide) rfl rfl ?_
  refine xo_12 rfl ?_
  refine xo_1 rfl rfl ?_
  refine xo_0 rfl ?_
  refine xo_11n rfl (by decide) ?_
  refine xo_2 rfl rfl ?_
  refine xo_13r rfl cr_13_11 ?_
  refine xo_1 rfl rfl ?_
  refine xo_0 rfl ?_
  refine xo_22 rfl ca_22 (am_ix.lit rfl) ?_
  refine xo_9 (z := 4) (lv' := [some (.ref 13), some (.int 4)]) rfl rfl (by decide) rfl rfl ?_
  refine xo_12 rfl ?_
  refine xo_1 rfl rfl ?_
  refine xo_0 rfl ?_
  refine xo_11 rfl (by decide) ?_
  refine xr_44 rfl ?_
  refine xo_2 rfl rfl ?_
  refine xo_0 rfl ?_
  refine xo_14 rfl cf_1_0 ?_
  refine xo_2 rfl rfl ?_
  refine xo_1 rfl rfl ?_
  refine xo_14 rfl cf_1_4 ?_
  refine xo_2 rfl rfl ?_
  refine xo_0 rfl ?_
  refine xo_14 rfl cf_1_5 ?_
  refine xo_2 rfl rfl ?_
  refine xo_0 rfl ?_
  refine xo_14 rfl cf_1_3 ?_
  refine xo_2 rfl rfl ?_
  refine xo_0 rfl ?_
  refine xo_14 rfl cf_1_1 ?_
  refine xo_2 rfl rfl ?_
  refine xo_0 rfl ?_
  refine xo_14 rfl cf_1_8 ?_
  refine xo_2 rfl rfl ?_
  refine cl_27_1 rfl hd_25 rfl ?_
  exact H
theorem sm_25_38 {q2 : Option Value} {q3 : Option Value} (hq2 : am_nl q2 = true) (hq3 : am_nl q3 = true) (H : am_X L xs d 25 40 [some (.ref 1), some (.ref 13), q2, some (.int 0)] [] am_C0 h o g Q T) : am_X L xs d 25 38 [some (.ref 1), some (.ref 13), q2, q3] [] am_C0 h o g Q T := by
  refine xo_0 rfl ?_
  refine xo_4 (lv' := [some (.ref 1), some (.ref 13), q2, some (.int 0)]) rfl hq2 rfl ?_
  exact H
theorem sm_25_40 {q2 : Option Value} {x3 : Int32} (hq2 : am_nl q2 = true) (H : (if 500 < x3 then Q (some (.int (h 1 3))) h o g else (if (h 1 7) = 0 then Q (some (.int (h 1 3))) h o g else (if (h 1 3) = 0 then am_X L xs d 29 0 [some (.ref 1), some (.ref 13)] [] am_C0 h o g (fun w h' o' g' => am_X L xs (d + 1) 25 66 [some (.ref 1), some (.ref 13), q2, some (.int x3)] (w.toList ++ []) am_C0 h' o' g' Q T) T else Q (some (.int (h 1 3))) h o g)))) : am_X L xs (d + 1) 25 40 [some (.ref 1), some (.ref 13), q2, some (.int x3)] [] am_C0 h o g Q T := by
  refine xo_1 rfl rfl ?_
  refine xo_0 rfl ?_
  refine xo_11gt rfl (am_sp ?_ ?_ H)
  · intro hc1 H
    refine xo_2 rfl rfl ?_
    refine xo_13 rfl cf_1_3 ?_
    refine xo_41 rfl ?_
    exact H
  · intro hc1 H
    refine xo_2 rfl rfl ?_
    refine xo_13 rfl cf_1_7 ?_
    refine xo_10eq rfl (am_sp ?_ ?_ H)
    · intro hc2 H
      refine xo_2 rfl rfl ?_
      refine xo_13 rfl cf_1_3 ?_
      refine xo_41 rfl ?_
      exact H
    · intro hc2 H
      refine xo_2 rfl rfl ?_
      refine xo_13 rfl cf_1_3 ?_
      refine xo_10ne rfl (am_sp ?_ ?_ H)
      · intro hc3 H
        refine xo_2 rfl rfl ?_
        refine xo_2 rfl rfl ?_
        refine cl_29_1_13 rfl hd_25 rfl ?_
        exact H
      · intro hc3 H
        refine xo_2 rfl rfl ?_
        refine xo_13 rfl cf_1_3 ?_
        refine xo_41 rfl ?_
        exact H
theorem sm_25_66 {q2 : Option Value} {x3 : Int32} (hq2 : am_nl q2 = true) (H : am_X L xs d 25 40 [some (.ref 1), some (.ref 13), q2, some (.int (x3 + 1))] [] am_C0 h o g Q T) : am_X L xs d 25 66 [some (.ref 1), some (.ref 13), q2, some (.int x3)] [] am_C0 h o g Q T := by
  refine xo_9 (z := (x3 + 1)) (lv' := [some (.ref 1), some (.ref 13), q2, some (.int (x3 + 1))]) rfl rfl rfl hq2 rfl ?_
  refine xo_12 rfl ?_
  exact H
theorem sm_27 (H : (if (h 1 5) < (h 1 4) then (am_ix (h 1 5) 500 ∧ (if (fn_28 (h 2 ((h 1 5).toNatClampNeg))) = 4 then am_X L xs (d + 1) 27 0 [some (.ref 1)] [] am_C0 (am_set h 1 5 ((h 1 5) + 1)) o g Q T else (if (fn_28 (h 2 ((h 1 5).toNatClampNeg))) = 1 then am_X L xs (d + 1) 27 107 [some (.ref 1)] [] am_C0 (am_set (am_set (am_set h 1 6 (h 1 5)) 1 7 (fn_28 (h 2 ((h 1 5).toNatClampNeg)))) 1 5 ((h 1 5) + 1)) o g Q T else (if (fn_28 (h 2 ((h 1 5).toNatClampNeg))) = 2 then am_X L xs (d + 1) 27 107 [some (.ref 1)] [] am_C0 (am_set (am_set (am_set h 1 6 (h 1 5)) 1 7 (fn_28 (h 2 ((h 1 5).toNatClampNeg)))) 1 5 ((h 1 5) + 1)) o g Q T else Q none (am_set (am_set (am_set h 1 6 (h 1 5)) 1 7 (fn_28 (h 2 ((h 1 5).toNatClampNeg)))) 1 5 ((h 1 5) + 1)) o g)))) else Q none (am_set (am_set h 1 6 (h 1 5)) 1 7 0) o g)) : am_X L xs (d + 1) 27 0 [some (.ref 1)] [] am_C0 h o g Q T := by
  refine xo_2 rfl rfl ?_
  refine xo_13 rfl cf_1_5 ?_
  refine xo_2 rfl rfl ?_
  refine xo_13 rfl cf_1_4 ?_
  refine xo_11ge rfl (am_sp ?_ ?_ H)
  · intro hc1 H
    refine xo_2 rfl rfl ?_
    refine xo_13r rfl cr_1_2 ?_
    refine xo_2 rfl rfl ?_
    refine xo_13 rfl cf_1_5 ?_
    obtain ⟨hg2, H⟩ := H
    refine xo_18 rfl ca_2 hg2 ?_
    refine cl_28 rfl hd_27 rfl (sf_28 ?_)
    show am_X L xs (d + 1) 27 23 [some (.ref 1)] [.int (fn_28 (h 2 ((h 1 5).toNatClampNeg)))] am_C0 h o g Q T
    refine xo_0 rfl ?_
    refine xo_11ne rfl (am_sp ?_ ?_ H)
    · intro hc3 H
      refine xo_2 rfl rfl ?_
      refine xo_28 rfl rfl ?_
      refine xo_13 rfl cf_1_5 ?_
      refine xo_0 rfl ?_
      refine xo_7 rfl rfl ?_
      refine xo_14 rfl cf_1_5 ?_
      refine xo_12 rfl ?_
      exact H
    · intro hc3 H
      refine xo_2 rfl rfl ?_
      refine xo_2 rfl rfl ?_
      refine xo_13 rfl cf_1_5 ?_
      refine xo_14 rfl cf_1_6 ?_
      refine xo_2 rfl rfl ?_
      refine xo_13 rfl cf_1_5 ?_
      refine xo_2 rfl rfl ?_
      refine xo_13 rfl cf_1_4 ?_
      refine xo_11lt rfl (am_ift hc1 ?_)
      refine xo_2 rfl rfl ?_
      refine xo_2 rfl rfl ?_
      refine xo_13r rfl cr_1_2 ?_
      refine xo_2 rfl rfl ?_
      refine xo_13 rfl cf_1_5 ?_
      refine xo_18 rfl ca_2 hg2 ?_
      refine cl_28 rfl hd_27 rfl (sf_28 ?_)
      show am_X L xs (d + 1) 27 78 [some (.ref 1)] [.int (fn_28 (h 2 ((h 1 5).toNatClampNeg))), .ref 1] am_C0 (am_set h 1 6 (h 1 5)) o g Q T
      refine xo_14 rfl cf_1_7 ?_
      refine xo_2 rfl rfl ?_
      refine xo_28 rfl rfl ?_
      refine xo_13 rfl cf_1_5 ?_
      refine xo_0 rfl ?_
      refine xo_7 rfl rfl ?_
      refine xo_14 rfl cf_1_5 ?_
      refine xo_2 rfl rfl ?_
      refine xo_13 rfl cf_1_7 ?_
      refine xo_0 rfl ?_
      refine xo_11eq rfl (am_sp ?_ ?_ H)
      · intro hc4 H
        exact H
      · intro hc4 H
        refine xo_2 rfl rfl ?_
        refine xo_13 rfl cf_1_7 ?_
        refine xo_0 rfl ?_
        refine xo_11ne rfl (am_sp ?_ ?_ H)
        · intro hc5 H
          exact H
        · intro hc5 H
          refine xo_44 rfl ?_
          exact H
  · intro hc1 H
    refine xo_2 rfl rfl ?_
    refine xo_2 rfl rfl ?_
    refine xo_13 rfl cf_1_5 ?_
    refine xo_14 rfl cf_1_6 ?_
    refine xo_2 rfl rfl ?_
    refine xo_13 rfl cf_1_5 ?_
    refine xo_2 rfl rfl ?_
    refine xo_13 rfl cf_1_4 ?_
    refine xo_11lt rfl (am_iff hc1 ?_)
    refine xo_2 rfl rfl ?_
    refine xo_0 rfl ?_
    refine xo_14 rfl cf_1_7 ?_
    refine xo_44 rfl ?_
    exact H
theorem sm_27_0 (H : (if (h 1 5) < (h 1 4) then (am_ix (h 1 5) 500 ∧ (if (fn_28 (h 2 ((h 1 5).toNatClampNeg))) = 4 then am_X L xs (d + 1) 27 0 [some (.ref 1)] [] am_C0 (am_set h 1 5 ((h 1 5) + 1)) o g Q T else (if (fn_28 (h 2 ((h 1 5).toNatClampNeg))) = 1 then am_X L xs (d + 1) 27 107 [some (.ref 1)] [] am_C0 (am_set (am_set (am_set h 1 6 (h 1 5)) 1 7 (fn_28 (h 2 ((h 1 5).toNatClampNeg)))) 1 5 ((h 1 5) + 1)) o g Q T else (if (fn_28 (h 2 ((h 1 5).toNatClampNeg))) = 2 then am_X L xs (d + 1) 27 107 [some (.ref 1)] [] am_C0 (am_set (am_set (am_set h 1 6 (h 1 5)) 1 7 (fn_28 (h 2 ((h 1 5).toNatClampNeg)))) 1 5 ((h 1 5) + 1)) o g Q T else Q none (am_set (am_set (am_set h 1 6 (h 1 5)) 1 7 (fn_28 (h 2 ((h 1 5).toNatClampNeg)))) 1 5 ((h 1 5) + 1)) o g)))) else Q none (am_set (am_set h 1 6 (h 1 5)) 1 7 0) o g)) : am_X L xs (d + 1) 27 0 [some (.ref 1)] [] am_C0 h o g Q T := by
  refine xo_2 rfl rfl ?_
  refine xo_13 rfl cf_1_5 ?_
  refine xo_2 rfl rfl ?_
  refine xo_13 rfl cf_1_4 ?_
  refine xo_11ge rfl (am_sp ?_ ?_ H)
  · intro hc1 H
    refine xo_2 rfl rfl ?_
    refine xo_13r rfl cr_1_2 ?_
    refine xo_2 rfl rfl ?_
    refine xo_13 rfl cf_1_5 ?_
    obtain ⟨hg2, H⟩ := H
    refine xo_18 rfl ca_2 hg2 ?_
    refine cl_28 rfl hd_27 rfl (sf_28 ?_)
    show am_X L xs (d + 1) 27 23 [some (.ref 1)] [.int (fn_28 (h 2 ((h 1 5).toNatClampNeg)))] am_C0 h o g Q T
    refine xo_0 rfl ?_
    refine xo_11ne rfl (am_sp ?_ ?_ H)
    · intro hc3 H
      refine xo_2 rfl rfl ?_
      refine xo_28 rfl rfl ?_
      refine xo_13 rfl cf_1_5 ?_
      refine xo_0 rfl ?_
      refine xo_7 rfl rfl ?_
      refine xo_14 rfl cf_1_5 ?_
      refine xo_12 rfl ?_
      exact H
    · intro hc3 H
      refine xo_2 rfl rfl ?_
      refine xo_2 rfl rfl ?_
      refine xo_13 rfl cf_1_5 ?_
      refine xo_14 rfl cf_1_6 ?_
      refine xo_2 rfl rfl ?_
      refine xo_13 rfl cf_1_5 ?_
      refine xo_2 rfl rfl ?_
      refine xo_13 rfl cf_1_4 ?_
      refine xo_11lt rfl (am_ift hc1 ?_)
      refine xo_2 rfl rfl ?_
      refine xo_2 rfl rfl ?_
      refine xo_13r rfl cr_1_2 ?_
      refine xo_2 rfl rfl ?_
      refine xo_13 rfl cf_1_5 ?_
      refine xo_18 rfl ca_2 hg2 ?_
      refine cl_28 rfl hd_27 rfl (sf_28 ?_)
      show am_X L xs (d + 1) 27 78 [some (.ref 1)] [.int (fn_28 (h 2 ((h 1 5).toNatClampNeg))), .ref 1] am_C0 (am_set h 1 6 (h 1 5)) o g Q T
      refine xo_14 rfl cf_1_7 ?_
      refine xo_2 rfl rfl ?_
      refine xo_28 rfl rfl ?_
      refine xo_13 rfl cf_1_5 ?_
      refine xo_0 rfl ?_
      refine xo_7 rfl rfl ?_
      refine xo_14 rfl cf_1_5 ?_
      refine xo_2 rfl rfl ?_
      refine xo_13 rfl cf_1_7 ?_
      refine xo_0 rfl ?_
      refine xo_11eq rfl (am_sp ?_ ?_ H)
      · intro hc4 H
        exact H
      · intro hc4 H
        refine xo_2 rfl rfl ?_
        refine xo_13 rfl cf_1_7 ?_
        refine xo_0 rfl ?_
        refine xo_11ne rfl (am_sp ?_ ?_ H)
        · intro hc5 H
          exact H
        · intro hc5 H
          refine xo_44 rfl ?_
          exact H
  · intro hc1 H
    refine xo_2 rfl rfl ?_
    refine xo_2 rfl rfl ?_
    refine xo_13 rfl cf_1_5 ?_
    refine xo_14 rfl cf_1_6 ?_
    refine xo_2 rfl rfl ?_
    refine xo_13 rfl cf_1_5 ?_
    refine xo_2 rfl rfl ?_
    refine xo_13 rfl cf_1_4 ?_
    refine xo_11lt rfl (am_iff hc1 ?_)
    refine xo_2 rfl rfl ?_
    refine xo_0 rfl ?_
    refine xo_14 rfl cf_1_7 ?_
    refine xo_44 rfl ?_
    exact H
theorem sm_27_107 (H : (if (h 1 5) < (h 1 4) then (am_ix (h 1 5) 500 ∧ (if (fn_28 (h 2 ((h 1 5).toNatClampNeg))) = (h 1 7) then am_X L xs (d + 1) 27 107 [some (.ref 1)] [] am_C0 (am_set h 1 5 ((h 1 5) + 1)) o g Q T else Q none h o g)) else Q none h o g)) : am_X L xs (d + 1) 27 107 [some (.ref 1)] [] am_C0 h o g Q T := by
  refine xo_2 rfl rfl ?_
  refine xo_13 rfl cf_1_5 ?_
  refine xo_2 rfl rfl ?_
  refine xo_13 rfl cf_1_4 ?_
  refine xo_11ge rfl (am_sp ?_ ?_ H)
  · intro hc1 H
    refine xo_2 rfl rfl ?_
    refine xo_13r rfl cr_1_2 ?_
    refine xo_2 rfl rfl ?_
    refine xo_13 rfl cf_1_5 ?_
    obtain ⟨hg2, H⟩ := H
    refine xo_18 rfl ca_2 hg2 ?_
    refine cl_28 rfl hd_27 rfl (sf_28 ?_)
    show am_X L xs (d + 1) 27 130 [some (.ref 1)] [.int (fn_28 (h 2 ((h 1 5).toNatClampNeg)))] am_C0 h o g Q T
    refine xo_2 rfl rfl ?_
    refine xo_13 rfl cf_1_7 ?_
    refine xo_11ne rfl (am_sp ?_ ?_ H)
    · intro hc3 H
      refine xo_2 rfl rfl ?_
      refine xo_28 rfl rfl ?_
      refine xo_13 rfl cf_1_5 ?_
      refine xo_0 rfl ?_
      refine xo_7 rfl rfl ?_
      refine xo_14 rfl cf_1_5 ?_
      refine xo_12 rfl ?_
      exact H
    · intro hc3 H
      refine xo_44 rfl ?_
      exact H
  · intro hc1 H
    refine xo_44 rfl ?_
    exact H
theorem sm_29 (H : am_X L xs d 30 0 [some (.ref 1), some (.ref 1000000), none] [] am_C0 h o g (fun w h' o' g' => am_X L xs (d + 1) 29 6 [some (.ref 1), some (.ref 13)] (w.toList ++ []) am_C0 h' o' g' Q T) T) : am_X L xs (d + 1) 29 0 [some (.ref 1), some (.ref 13)] [] am_C0 h o g Q T := by
  refine xo_2 rfl rfl ?_
  refine xo_46 (k := 1000000) rfl rfl ?_
  refine cl_30_s rfl hd_29 rfl ?_
  exact H
theorem sm_29_6 {z0 : Int32} (H : (if z0 = 0 then am_X L xs d 30 0 [some (.ref 1), some (.ref 1000002), none] [] am_C0 h o g (fun w h' o' g' => am_X L xs (d + 1) 29 23 [some (.ref 1), some (.ref 13)] (w.toList ++ []) am_C0 h' o' g' Q T) T else am_X L xs d 31 0 [some (.ref 1), some (.ref 13), none] [] am_C0 h o g (fun w h' o' g' => am_X L xs (d + 1) 29 14 [some (.ref 1), some (.ref 13)] (w.toList ++ []) am_C0 h' o' g' Q T) T)) : am_X L xs (d + 1) 29 6 [some (.ref 1), some (.ref 13)] [.int z0] am_C0 h o g Q T := by
  refine xo_10eq rfl (am_sp ?_ ?_ H)
  · intro hc1 H
    refine xo_2 rfl rfl ?_
    refine xo_46 (k := 1000002) rfl rfl ?_
    refine cl_30_s rfl hd_29 rfl ?_
    exact H
  · intro hc1 H
    refine xo_2 rfl rfl ?_
    refine xo_2 rfl rfl ?_
    refine cl_31_1_13 rfl hd_29 rfl ?_
    exact H
theorem sm_29_23 {z0 : Int32} (H : (if z0 = 0 then am_X L xs d 30 0 [some (.ref 1), some (.ref 1000003), none] [] am_C0 h o g (fun w h' o' g' => am_X L xs (d + 1) 29 40 [some (.ref 1), some (.ref 13)] (w.toList ++ []) am_C0 h' o' g' Q T) T else am_X L xs d 35 0 [some (.ref 1), some (.ref 13)] [] am_C0 h o g (fun w h' o' g' => am_X L xs (d + 1) 29 31 [some (.ref 1), some (.ref 13)] (w.toList ++ []) am_C0 h' o' g' Q T) T)) : am_X L xs (d + 1) 29 23 [some (.ref 1), some (.ref 13)] [.int z0] am_C0 h o g Q T := by
  refine xo_10eq rfl (am_sp ?_ ?_ H)
  · intro hc1 H
    refine xo_2 rfl rfl ?_
    refine xo_46 (k := 1000003) rfl rfl ?_
    refine cl_30_s rfl hd_29 rfl ?_
    exact H
  · intro hc1 H
    refine xo_2 rfl rfl ?_
    refine xo_2 rfl rfl ?_
    refine cl_35_1_13 rfl hd_29 rfl ?_
    exact H
theorem sm_29_14 {q1 : Option Value} (hq1 : am_nl q1 = true) (H : (if (h 1 7) = 3 then am_X L xs d 27 0 [some (.ref 1)] [] am_C0 h o g (fun w h' o' g' => am_X L xs (d + 1) 29 190 [some (.ref 1), q1] (w.toList ++ []) am_C0 h' o' g' Q T) T else (if (h 1 3) = 0 then am_X L xs d 27 0 [some (.ref 1)] [] am_C0 (am_set (am_set h 1 3 1) 1 1 (h 1 6)) o g (fun w h' o' g' => am_X L xs (d + 1) 29 190 [some (.ref 1), q1] (w.toList ++ []) am_C0 h' o' g' Q T) T else am_X L xs d 27 0 [some (.ref 1)] [] am_C0 h o g (fun w h' o' g' => am_X L xs (d + 1) 29 190 [some (.ref 1), q1] (w.toList ++ []) am_C0 h' o' g' Q T) T))) : am_X L xs (d + 1) 29 14 [some (.ref 1), q1] [] am_C0 h o g Q T := by
  refine xo_12 rfl ?_
  refine xo_2 rfl rfl ?_
  refine xo_13 rfl cf_1_7 ?_
  refine xo_0 rfl ?_
  refine xo_11eq rfl (am_sp ?_ ?_ H)
  · intro hc1 H
    refine xo_2 rfl rfl ?_
    refine cl_27_1 rfl hd_29 rfl ?_
    exact H
  · intro hc1 H
    refine xo_2 rfl rfl ?_
    refine xo_0 rfl ?_
    refine cl_32_1 rfl hd_29 rfl ?_
    refine xo_2 rfl rfl ?_
    refine xo_13 rfl cf_1_3 ?_
    refine xo_10ne rfl (am_sp ?_ ?_ H)
    · intro hc2 H
      refine xo_2 rfl rfl ?_
      refine xo_1 rfl rfl ?_
      refine xo_14 rfl cf_1_3 ?_
      refine xo_2 rfl rfl ?_
      refine xo_2 rfl rfl ?_
      refine xo_13 rfl cf_1_6 ?_
      refine xo_14 rfl cf_1_1 ?_
      refine xr_44 rfl ?_
      refine xo_2 rfl rfl ?_
      refine cl_27_1 rfl hd_29 rfl ?_
      exact H
    · intro hc2 H
      refine xr_44 rfl ?_
      refine xo_2 rfl rfl ?_
      refine cl_27_1 rfl hd_29 rfl ?_
      exact H
theorem sm_29_40 {z0 : Int32} (H : (if z0 = 0 then am_X L xs d 30 0 [some (.ref 1), some (.ref 1000005), none] [] am_C0 h o g (fun w h' o' g' => am_X L xs (d + 1) 29 58 [some (.ref 1), some (.ref 13)] (w.toList ++ []) am_C0 h' o' g' Q T) T else am_X L xs d 36 0 [some (.ref 1), some (.ref 13), some (.int 0), none] [] am_C0 h o g (fun w h' o' g' => am_X L xs (d + 1) 29 49 [some (.ref 1), some (.ref 13)] (w.toList ++ []) am_C0 h' o' g' Q T) T)) : am_X L xs (d + 1) 29 40 [some (.ref 1), some (.ref 13)] [.int z0] am_C0 h o g Q T := by
  refine xo_10eq rfl (am_sp ?_ ?_ H)
  · intro hc1 H
    refine xo_2 rfl rfl ?_
    refine xo_46 (k := 1000005) rfl rfl ?_
    refine cl_30_s rfl hd_29 rfl ?_
    exact H
  · intro hc1 H
    refine xo_2 rfl rfl ?_
    refine xo_2 rfl rfl ?_
    refine xo_0 rfl ?_
    refine cl_36_1_13 rfl hd_29 rfl ?_
    exact H
theorem sm_29_31 {q1 : Option Value} (hq1 : am_nl q1 = true) (H : (if (h 1 7) = 3 then am_X L xs d 27 0 [some (.ref 1)] [] am_C0 h o g (fun w h' o' g' => am_X L xs (d + 1) 29 190 [some (.ref 1), q1] (w.toList ++ []) am_C0 h' o' g' Q T) T else (if (h 1 3) = 0 then am_X L xs d 27 0 [some (.ref 1)] [] am_C0 (am_set (am_set h 1 3 1) 1 1 (h 1 6)) o g (fun w h' o' g' => am_X L xs (d + 1) 29 190 [some (.ref 1), q1] (w.toList ++ []) am_C0 h' o' g' Q T) T else am_X L xs d 27 0 [some (.ref 1)] [] am_C0 h o g (fun w h' o' g' => am_X L xs (d + 1) 29 190 [some (.ref 1), q1] (w.toList ++ []) am_C0 h' o' g' Q T) T))) : am_X L xs (d + 1) 29 31 [some (.ref 1), q1] [] am_C0 h o g Q T := by
  refine xo_12 rfl ?_
  refine xo_2 rfl rfl ?_
  refine xo_13 rfl cf_1_7 ?_
  refine xo_0 rfl ?_
  refine xo_11eq rfl (am_sp ?_ ?_ H)
  · intro hc1 H
    refine xo_2 rfl rfl ?_
    refine cl_27_1 rfl hd_29 rfl ?_
    exact H
  · intro hc1 H
    refine xo_2 rfl rfl ?_
    refine xo_0 rfl ?_
    refine cl_32_1 rfl hd_29 rfl ?_
    refine xo_2 rfl rfl ?_
    refine xo_13 rfl cf_1_3 ?_
    refine xo_10ne rfl (am_sp ?_ ?_ H)
    · intro hc2 H
      refine xo_2 rfl rfl ?_
      refine xo_1 rfl rfl ?_
      refine xo_14 rfl cf_1_3 ?_
      refine xo_2 rfl rfl ?_
      refine xo_2 rfl rfl ?_
      refine xo_13 rfl cf_1_6 ?_
      refine xo_14 rfl cf_1_1 ?_
      refine xr_44 rfl ?_
      refine xo_2 rfl rfl ?_
      refine cl_27_1 rfl hd_29 rfl ?_
      exact H
    · intro hc2 H
      refine xr_44 rfl ?_
      refine xo_2 rfl rfl ?_
      refine cl_27_1 rfl hd_29 rfl ?_
      exact H
theorem sm_29_190 {q0 : Option Value} {q1 : Option Value} (hq0 : am_nl q0 = true) (hq1 : am_nl q1 = true) (H : Q none h o g) : am_X L xs d 29 190 [q0, q1] [] am_C0 h o g Q T := by
  refine xo_44 rfl ?_
  exact H
theorem sm_29_58 {z0 : Int32} (H : (if z0 = 0 then am_X L xs d 30 0 [some (.ref 1), some (.ref 1000006), none] [] am_C0 h o g (fun w h' o' g' => am_X L xs (d + 1) 29 76 [some (.ref 1), some (.ref 13)] (w.toList ++ []) am_C0 h' o' g' Q T) T else am_X L xs d 36 0 [some (.ref 1), some (.ref 13), some (.int 1), none] [] am_C0 h o g (fun w h' o' g' => am_X L xs (d + 1) 29 67 [some (.ref 1), some (.ref 13)] (w.toList ++ []) am_C0 h' o' g' Q T) T)) : am_X L xs (d + 1) 29 58 [some (.ref 1), some (.ref 13)] [.int z0] am_C0 h o g Q T := by
  refine xo_10eq rfl (am_sp ?_ ?_ H)
  · intro hc1 H
    refine xo_2 rfl rfl ?_
    refine xo_46 (k := 1000006) rfl rfl ?_
    refine cl_30_s rfl hd_29 rfl ?_
    exact H
  · intro hc1 H
    refine xo_2 rfl rfl ?_
    refine xo_2 rfl rfl ?_
    refine xo_0 rfl ?_
    refine cl_36_1_13 rfl hd_29 rfl ?_
    exact H
theorem sm_29_49 {q1 : Option Value} (hq1 : am_nl q1 = true) (H : (if (h 1 7) = 3 then am_X L xs d 27 0 [some (.ref 1)] [] am_C0 h o g (fun w h' o' g' => am_X L xs (d + 1) 29 190 [some (.ref 1), q1] (w.toList ++ []) am_C0 h' o' g' Q T) T else (if (h 1 3) = 0 then am_X L xs d 27 0 [some (.ref 1)] [] am_C0 (am_set (am_set h 1 3 1) 1 1 (h 1 6)) o g (fun w h' o' g' => am_X L xs (d + 1) 29 190 [some (.ref 1), q1] (w.toList ++ []) am_C0 h' o' g' Q T) T else am_X L xs d 27 0 [some (.ref 1)] [] am_C0 h o g (fun w h' o' g' => am_X L xs (d + 1) 29 190 [some (.ref 1), q1] (w.toList ++ []) am_C0 h' o' g' Q T) T))) : am_X L xs (d + 1) 29 49 [some (.ref 1), q1] [] am_C0 h o g Q T := by
  refine xo_12 rfl ?_
  refine xo_2 rfl rfl ?_
  refine xo_13 rfl cf_1_7 ?_
  refine xo_0 rfl ?_
  refine xo_11eq rfl (am_sp ?_ ?_ H)
  · intro hc1 H
    refine xo_2 rfl rfl ?_
    refine cl_27_1 rfl hd_29 rfl ?_
    exact H
  · intro hc1 H
    refine xo_2 rfl rfl ?_
    refine xo_0 rfl ?_
    refine cl_32_1 rfl hd_29 rfl ?_
    refine xo_2 rfl rfl ?_
    refine xo_13 rfl cf_1_3 ?_
    refine xo_10ne rfl (am_sp ?_ ?_ H)
    · intro hc2 H
      refine xo_2 rfl rfl ?_
      refine xo_1 rfl rfl ?_
      refine xo_14 rfl cf_1_3 ?_
      refine xo_2 rfl rfl ?_
      refine xo_2 rfl rfl ?_
      refine xo_13 rfl cf_1_6 ?_
      refine xo_14 rfl cf_1_1 ?_
      refine xr_44 rfl ?_
      refine xo_2 rfl rfl ?_
      refine cl_27_1 rfl hd_29 rfl ?_
      exact H
    · intro hc2 H
      refine xr_44 rfl ?_
      refine xo_2 rfl rfl ?_
      refine cl_27_1 rfl hd_29 rfl ?_
      exact H
theorem sm_29_76 {z0 : Int32} (H : (if z0 = 0 then am_X L xs d 30 0 [some (.ref 1), some (.ref 1000007), none] [] am_C0 h o g (fun w h' o' g' => am_X L xs (d + 1) 29 94 [some (.ref 1), some (.ref 13)] (w.toList ++ []) am_C0 h' o' g' Q T) T else am_X L xs d 36 0 [some (.ref 1), some (.ref 13), some (.int 2), none] [] am_C0 h o g (fun w h' o' g' => am_X L xs (d + 1) 29 85 [some (.ref 1), some (.ref 13)] (w.toList ++ []) am_C0 h' o' g' Q T) T)) : am_X L xs (d + 1) 29 76 [some (.ref 1), some (.ref 13)] [.int z0] am_C0 h o g Q T := by
  refine xo_10eq rfl (am_sp ?_ ?_ H)
  · intro hc1 H
    refine xo_2 rfl rfl ?_
    refine xo_46 (k := 1000007) rfl rfl ?_
    refine cl_30_s rfl hd_29 rfl ?_
    exact H
  · intro hc1 H
    refine xo_2 rfl rfl ?_
    refine xo_2 rfl rfl ?_
    refine xo_0 rfl ?_
    refine cl_36_1_13 rfl hd_29 rfl ?_
    exact H
theorem sm_29_67 {q1 : Option Value} (hq1 : am_nl q1 = true) (H : (if (h 1 7) = 3 then am_X L xs d 27 0 [some (.ref 1)] [] am_C0 h o g (fun w h' o' g' => am_X L xs (d + 1) 29 190 [some (.ref 1), q1] (w.toList ++ []) am_C0 h' o' g' Q T) T else (if (h 1 3) = 0 then am_X L xs d 27 0 [some (.ref 1)] [] am_C0 (am_set (am_set h 1 3 1) 1 1 (h 1 6)) o g (fun w h' o' g' => am_X L xs (d + 1) 29 190 [some (.ref 1), q1] (w.toList ++ []) am_C0 h' o' g' Q T) T else am_X L xs d 27 0 [some (.ref 1)] [] am_C0 h o g (fun w h' o' g' => am_X L xs (d + 1) 29 190 [some (.ref 1), q1] (w.toList ++ []) am_C0 h' o' g' Q T) T))) : am_X L xs (d + 1) 29 67 [some (.ref 1), q1] [] am_C0 h o g Q T := by
  refine xo_12 rfl ?_
  refine xo_2 rfl rfl ?_
  refine xo_13 rfl cf_1_7 ?_
  refine xo_0 rfl ?_
  refine xo_11eq rfl (am_sp ?_ ?_ H)
  · intro hc1 H
    refine xo_2 rfl rfl ?_
    refine cl_27_1 rfl hd_29 rfl ?_
    exact H
  · intro hc1 H
    refine xo_2 rfl rfl ?_
    refine xo_0 rfl ?_
    refine cl_32_1 rfl hd_29 rfl ?_
    refine xo_2 rfl rfl ?_
    refine xo_13 rfl cf_1_3 ?_
    refine xo_10ne rfl (am_sp ?_ ?_ H)
    · intro hc2 H
      refine xo_2 rfl rfl ?_
      refine xo_1 rfl rfl ?_
      refine xo_14 rfl cf_1_3 ?_
      refine xo_2 rfl rfl ?_
      refine xo_2 rfl rfl ?_
      refine xo_13 rfl cf_1_6 ?_
      refine xo_14 rfl cf_1_1 ?_
      refine xr_44 rfl ?_
      refine xo_2 rfl rfl ?_
      refine cl_27_1 rfl hd_29 rfl ?_
      exact H
    · intro hc2 H
      refine xr_44 rfl ?_
      refine xo_2 rfl rfl ?_
      refine cl_27_1 rfl hd_29 rfl ?_
      exact H
theorem sm_29_94 {z0 : Int32} (H : (if z0 = 0 then am_X L xs d 30 0 [some (.ref 1), some (.ref 1000008), none] [] am_C0 h o g (fun w h' o' g' => am_X L xs (d + 1) 29 114 [some (.ref 1), some (.ref 13)] (w.toList ++ []) am_C0 h' o' g' Q T) T else am_X L xs d 37 0 [some (.ref 1), some (.ref 13), some (.int 0), some (.int 40), none] [] am_C0 h o g (fun w h' o' g' => am_X L xs (d + 1) 29 105 [some (.ref 1), some (.ref 13)] (w.toList ++ []) am_C0 h' o' g' Q T) T)) : am_X L xs (d + 1) 29 94 [some (.ref 1), some (.ref 13)] [.int z0] am_C0 h o g Q T := by
  refine xo_10eq rfl (am_sp ?_ ?_ H)
  · intro hc1 H
    refine xo_2 rfl rfl ?_
    refine xo_46 (k := 1000008) rfl rfl ?_
    refine cl_30_s rfl hd_29 rfl ?_
    exact H
  · intro hc1 H
    refine xo_2 rfl rfl ?_
    refine xo_2 rfl rfl ?_
    refine xo_0 rfl ?_
    refine xo_0 rfl ?_
    refine cl_37_1_13 rfl hd_29 rfl ?_
    exact H
theorem sm_29_85 {q1 : Option Value} (hq1 : am_nl q1 = true) (H : (if (h 1 7) = 3 then am_X L xs d 27 0 [some (.ref 1)] [] am_C0 h o g (fun w h' o' g' => am_X L xs (d + 1) 29 190 [some (.ref 1), q1] (w.toList ++ []) am_C0 h' o' g' Q T) T else (if (h 1 3) = 0 then am_X L xs d 27 0 [some (.ref 1)] [] am_C0 (am_set (am_set h 1 3 1) 1 1 (h 1 6)) o g (fun w h' o' g' => am_X L xs (d + 1) 29 190 [some (.ref 1), q1] (w.toList ++ []) am_C0 h' o' g' Q T) T else am_X L xs d 27 0 [some (.ref 1)] [] am_C0 h o g (fun w h' o' g' => am_X L xs (d + 1) 29 190 [some (.ref 1), q1] (w.toList ++ []) am_C0 h' o' g' Q T) T))) : am_X L xs (d + 1) 29 85 [some (.ref 1), q1] [] am_C0 h o g Q T := by
  refine xo_12 rfl ?_
  refine xo_2 rfl rfl ?_
  refine xo_13 rfl cf_1_7 ?_
  refine xo_0 rfl ?_
  refine xo_11eq rfl (am_sp ?_ ?_ H)
  · intro hc1 H
    refine xo_2 rfl rfl ?_
    refine cl_27_1 rfl hd_29 rfl ?_
    exact H
  · intro hc1 H
    refine xo_2 rfl rfl ?_
    refine xo_0 rfl ?_
    refine cl_32_1 rfl hd_29 rfl ?_
    refine xo_2 rfl rfl ?_
    refine xo_13 rfl cf_1_3 ?_
    refine xo_10ne rfl (am_sp ?_ ?_ H)
    · intro hc2 H
      refine xo_2 rfl rfl ?_
      refine xo_1 rfl rfl ?_
      refine xo_14 rfl cf_1_3 ?_
      refine xo_2 rfl rfl ?_
      refine xo_2 rfl rfl ?_
      refine xo_13 rfl cf_1_6 ?_
      refine xo_14 rfl cf_1_1 ?_
      refine xr_44 rfl ?_
      refine xo_2 rfl rfl ?_
      refine cl_27_1 rfl hd_29 rfl ?_
      exact H
    · intro hc2 H
      refine xr_44 rfl ?_
      refine xo_2 rfl rfl ?_
      refine cl_27_1 rfl hd_29 rfl ?_
      exact H
theorem sm_29_114 {z0 : Int32} (H : (if z0 = 0 then am_X L xs d 30 0 [some (.ref 1), some (.ref 1000009), none] [] am_C0 h o g (fun w h' o' g' => am_X L xs (d + 1) 29 134 [some (.ref 1), some (.ref 13)] (w.toList ++ []) am_C0 h' o' g' Q T) T else am_X L xs d 37 0 [some (.ref 1), some (.ref 13), some (.int 1), some (.int 20), none] [] am_C0 h o g (fun w h' o' g' => am_X L xs (d + 1) 29 125 [some (.ref 1), some (.ref 13)] (w.toList ++ []) am_C0 h' o' g' Q T) T)) : am_X L xs (d + 1) 29 114 [some (.ref 1), some (.ref 13)] [.int z0] am_C0 h o g Q T := by
  refine xo_10eq rfl (am_sp ?_ ?_ H)
  · intro hc1 H
    refine xo_2 rfl rfl ?_
    refine xo_46 (k := 1000009) rfl rfl ?_
    refine cl_30_s rfl hd_29 rfl ?_
    exact H
  · intro hc1 H
    refine xo_2 rfl rfl ?_
    refine xo_2 rfl rfl ?_
    refine xo_0 rfl ?_
    refine xo_0 rfl ?_
    refine cl_37_1_13 rfl hd_29 rfl ?_
    exact H
theorem sm_29_105 {q1 : Option Value} (hq1 : am_nl q1 = true) (H : (if (h 1 7) = 3 then am_X L xs d 27 0 [some (.ref 1)] [] am_C0 h o g (fun w h' o' g' => am_X L xs (d + 1) 29 190 [some (.ref 1), q1] (w.toList ++ []) am_C0 h' o' g' Q T) T else (if (h 1 3) = 0 then am_X L xs d 27 0 [some (.ref 1)] [] am_C0 (am_set (am_set h 1 3 1) 1 1 (h 1 6)) o g (fun w h' o' g' => am_X L xs (d + 1) 29 190 [some (.ref 1), q1] (w.toList ++ []) am_C0 h' o' g' Q T) T else am_X L xs d 27 0 [some (.ref 1)] [] am_C0 h o g (fun w h' o' g' => am_X L xs (d + 1) 29 190 [some (.ref 1), q1] (w.toList ++ []) am_C0 h' o' g' Q T) T))) : am_X L xs (d + 1) 29 105 [some (.ref 1), q1] [] am_C0 h o g Q T := by
  refine xo_12 rfl ?_
  refine xo_2 rfl rfl ?_
  refine xo_13 rfl cf_1_7 ?_
  refine xo_0 rfl ?_
  refine xo_11eq rfl (am_sp ?_ ?_ H)
  · intro hc1 H
    refine xo_2 rfl rfl ?_
    refine cl_27_1 rfl hd_29 rfl ?_
    exact H
  · intro hc1 H
    refine xo_2 rfl rfl ?_
    refine xo_0 rfl ?_
    refine cl_32_1 rfl hd_29 rfl ?_
    refine xo_2 rfl rfl ?_
    refine xo_13 rfl cf_1_3 ?_
    refine xo_10ne rfl (am_sp ?_ ?_ H)
    · intro hc2 H
      refine xo_2 rfl rfl ?_
      refine xo_1 rfl rfl ?_
      refine xo_14 rfl cf_1_3 ?_
      refine xo_2 rfl rfl ?_
      refine xo_2 rfl rfl ?_
      refine xo_13 rfl cf_1_6 ?_
      refine xo_14 rfl cf_1_1 ?_
      refine xr_44 rfl ?_
      refine xo_2 rfl rfl ?_
      refine cl_27_1 rfl hd_29 rfl ?_
      exact H
    · intro hc2 H
      refine xr_44 rfl ?_
      refine xo_2 rfl rfl ?_
      refine cl_27_1 rfl hd_29 rfl ?_
      exact H
theorem sm_29_134 {z0 : Int32} (H : (if z0 = 0 then am_X L xs d 30 0 [some (.ref 1), some (.ref 1000010), none] [] am_C0 h o g (fun w h' o' g' => am_X L xs (d + 1) 29 153 [some (.ref 1), some (.ref 13)] (w.toList ++ []) am_C0 h' o' g' Q T) T else am_X L xs d 37 0 [some (.ref 1), some (.ref 13), some (.int 2), some (.int 2), none] [] am_C0 h o g (fun w h' o' g' => am_X L xs (d + 1) 29 144 [some (.ref 1), some (.ref 13)] (w.toList ++ []) am_C0 h' o' g' Q T) T)) : am_X L xs (d + 1) 29 134 [some (.ref 1), some (.ref 13)] [.int z0] am_C0 h o g Q T := by
  refine xo_10eq rfl (am_sp ?_ ?_ H)
  · intro hc1 H
    refine xo_2 rfl rfl ?_
    refine xo_46 (k := 1000010) rfl rfl ?_
    refine cl_30_s rfl hd_29 rfl ?_
    exact H
  · intro hc1 H
    refine xo_2 rfl rfl ?_
    refine xo_2 rfl rfl ?_
    refine xo_0 rfl ?_
    refine xo_0 rfl ?_
    refine cl_37_1_13 rfl hd_29 rfl ?_
    exact H
theorem sm_29_125 {q1 : Option Value} (hq1 : am_nl q1 = true) (H : (if (h 1 7) = 3 then am_X L xs d 27 0 [some (.ref 1)] [] am_C0 h o g (fun w h' o' g' => am_X L xs (d + 1) 29 190 [some (.ref 1), q1] (w.toList ++ []) am_C0 h' o' g' Q T) T else (if (h 1 3) = 0 then am_X L xs d 27 0 [some (.ref 1)] [] am_C0 (am_set (am_set h 1 3 1) 1 1 (h 1 6)) o g (fun w h' o' g' => am_X L xs (d + 1) 29 190 [some (.ref 1), q1] (w.toList ++ []) am_C0 h' o' g' Q T) T else am_X L xs d 27 0 [some (.ref 1)] [] am_C0 h o g (fun w h' o' g' => am_X L xs (d + 1) 29 190 [some (.ref 1), q1] (w.toList ++ []) am_C0 h' o' g' Q T) T))) : am_X L xs (d + 1) 29 125 [some (.ref 1), q1] [] am_C0 h o g Q T := by
  refine xo_12 rfl ?_
  refine xo_2 rfl rfl ?_
  refine xo_13 rfl cf_1_7 ?_
  refine xo_0 rfl ?_
  refine xo_11eq rfl (am_sp ?_ ?_ H)
  · intro hc1 H
    refine xo_2 rfl rfl ?_
    refine cl_27_1 rfl hd_29 rfl ?_
    exact H
  · intro hc1 H
    refine xo_2 rfl rfl ?_
    refine xo_0 rfl ?_
    refine cl_32_1 rfl hd_29 rfl ?_
    refine xo_2 rfl rfl ?_
    refine xo_13 rfl cf_1_3 ?_
    refine xo_10ne rfl (am_sp ?_ ?_ H)
    · intro hc2 H
      refine xo_2 rfl rfl ?_
      refine xo_1 rfl rfl ?_
      refine xo_14 rfl cf_1_3 ?_
      refine xo_2 rfl rfl ?_
      refine xo_2 rfl rfl ?_
      refine xo_13 rfl cf_1_6 ?_
      refine xo_14 rfl cf_1_1 ?_
      refine xr_44 rfl ?_
      refine xo_2 rfl rfl ?_
      refine cl_27_1 rfl hd_29 rfl ?_
      exact H
    · intro hc2 H
      refine xr_44 rfl ?_
      refine xo_2 rfl rfl ?_
      refine cl_27_1 rfl hd_29 rfl ?_
      exact H
theorem sm_29_153 {z0 : Int32} (H : (if z0 = 0 then (if (h 1 3) = 0 then (if (h 1 7) = 3 then am_X L xs d 27 0 [some (.ref 1)] [] am_C0 (am_set (am_set h 1 3 1) 1 1 (h 1 6)) o g (fun w h' o' g' => am_X L xs (d + 1) 29 190 [some (.ref 1), some (.ref 13)] (w.toList ++ []) am_C0 h' o' g' Q T) T else am_X L xs d 27 0 [some (.ref 1)] [] am_C0 (am_set (am_set h 1 3 1) 1 1 (h 1 6)) o g (fun w h' o' g' => am_X L xs (d + 1) 29 190 [some (.ref 1), some (.ref 13)] (w.toList ++ []) am_C0 h' o' g' Q T) T) else (if (h 1 7) = 3 then am_X L xs d 27 0 [some (.ref 1)] [] am_C0 h o g (fun w h' o' g' => am_X L xs (d + 1) 29 190 [some (.ref 1), some (.ref 13)] (w.toList ++ []) am_C0 h' o' g' Q T) T else am_X L xs d 27 0 [some (.ref 1)] [] am_C0 h o g (fun w h' o' g' => am_X L xs (d + 1) 29 190 [some (.ref 1), some (.ref 13)] (w.toList ++ []) am_C0 h' o' g' Q T) T)) else am_X L xs d 37 0 [some (.ref 1), some (.ref 13), some (.int 3), some (.int 999), none] [] am_C0 h o g (fun w h' o' g' => am_X L xs (d + 1) 29 165 [some (.ref 1), some (.ref 13)] (w.toList ++ []) am_C0 h' o' g' Q T) T)) : am_X L xs (d + 1) 29 153 [some (.ref 1), some (.ref 13)] [.int z0] am_C0 h o g Q T := by
  refine xo_10eq rfl (am_sp ?_ ?_ H)
  · intro hc1 H
    refine xo_2 rfl rfl ?_
    refine xo_0 rfl ?_
    refine cl_32_1 rfl hd_29 rfl ?_
    refine xo_2 rfl rfl ?_
    refine xo_13 rfl cf_1_3 ?_
    refine xo_10ne rfl (am_sp ?_ ?_ H)
    · intro hc2 H
      refine xo_2 rfl rfl ?_
      refine xo_1 rfl rfl ?_
      refine xo_14 rfl cf_1_3 ?_
      refine xo_2 rfl rfl ?_
      refine xo_2 rfl rfl ?_
      refine xo_13 rfl cf_1_6 ?_
      refine xo_14 rfl cf_1_1 ?_
      refine xr_44 rfl ?_
      refine xo_2 rfl rfl ?_
      refine xo_13 rfl cf_1_7 ?_
      refine xo_0 rfl ?_
      refine xo_11eq rfl (am_sp ?_ ?_ H)
      · intro hc3 H
        refine xo_2 rfl rfl ?_
        refine cl_27_1 rfl hd_29 rfl ?_
        exact H
      · intro hc3 H
        refine xo_2 rfl rfl ?_
        refine xo_0 rfl ?_
        refine cl_32_1 rfl hd_29 rfl ?_
        refine xo_2 rfl rfl ?_
        refine xo_13 rfl cf_1_3 ?_
        show am_X L xs d 32 4 [some (.ref 1), some (.int 1)] [.int 1] am_C0 (am_set (am_set h 1 3 1) 1 1 (h 1 6)) o g (fun w h' o' g' => am_X L xs (d + 1) 29 186 [some (.ref 1), some (.ref 13)] (w.toList ++ []) am_C0 h' o' g' Q T) T
        refine xo_10 rfl (by decide) ?_
        refine xr_44 rfl ?_
        refine xo_2 rfl rfl ?_
        refine cl_27_1 rfl hd_29 rfl ?_
        exact H
    · intro hc2 H
      refine xr_44 rfl ?_
      refine xo_2 rfl rfl ?_
      refine xo_13 rfl cf_1_7 ?_
      refine xo_0 rfl ?_
      refine xo_11eq rfl (am_sp ?_ ?_ H)
      · intro hc4 H
        refine xo_2 rfl rfl ?_
        refine cl_27_1 rfl hd_29 rfl ?_
        exact H
      · intro hc4 H
        refine xo_2 rfl rfl ?_
        refine xo_0 rfl ?_
        refine cl_32_1 rfl hd_29 rfl ?_
        refine xo_2 rfl rfl ?_
        refine xo_13 rfl cf_1_3 ?_
        refine xo_10ne rfl (am_iff hc2 ?_)
        refine xr_44 rfl ?_
        refine xo_2 rfl rfl ?_
        refine cl_27_1 rfl hd_29 rfl ?_
        exact H
  · intro hc1 H
    refine xo_2 rfl rfl ?_
    refine xo_2 rfl rfl ?_
    refine xo_0 rfl ?_
    refine xo_0 rfl ?_
    refine cl_37_1_13 rfl hd_29 rfl ?_
    exact H
theorem sm_29_144 {q1 : Option Value} (hq1 : am_nl q1 = true) (H : (if (h 1 7) = 3 then am_X L xs d 27 0 [some (.ref 1)] [] am_C0 h o g (fun w h' o' g' => am_X L xs (d + 1) 29 190 [some (.ref 1), q1] (w.toList ++ []) am_C0 h' o' g' Q T) T else (if (h 1 3) = 0 then am_X L xs d 27 0 [some (.ref 1)] [] am_C0 (am_set (am_set h 1 3 1) 1 1 (h 1 6)) o g (fun w h' o' g' => am_X L xs (d + 1) 29 190 [some (.ref 1), q1] (w.toList ++ []) am_C0 h' o' g' Q T) T else am_X L xs d 27 0 [some (.ref 1)] [] am_C0 h o g (fun w h' o' g' => am_X L xs (d + 1) 29 190 [some (.ref 1), q1] (w.toList ++ []) am_C0 h' o' g' Q T) T))) : am_X L xs (d + 1) 29 144 [some (.ref 1), q1] [] am_C0 h o g Q T := by
  refine xo_12 rfl ?_
  refine xo_2 rfl rfl ?_
  refine xo_13 rfl cf_1_7 ?_
  refine xo_0 rfl ?_
  refine xo_11eq rfl (am_sp ?_ ?_ H)
  · intro hc1 H
    refine xo_2 rfl rfl ?_
    refine cl_27_1 rfl hd_29 rfl ?_
    exact H
  · intro hc1 H
    refine xo_2 rfl rfl ?_
    refine xo_0 rfl ?_
    refine cl_32_1 rfl hd_29 rfl ?_
    refine xo_2 rfl rfl ?_
    refine xo_13 rfl cf_1_3 ?_
    refine xo_10ne rfl (am_sp ?_ ?_ H)
    · intro hc2 H
      refine xo_2 rfl rfl ?_
      refine xo_1 rfl rfl ?_
      refine xo_14 rfl cf_1_3 ?_
      refine xo_2 rfl rfl ?_
      refine xo_2 rfl rfl ?_
      refine xo_13 rfl cf_1_6 ?_
      refine xo_14 rfl cf_1_1 ?_
      refine xr_44 rfl ?_
      refine xo_2 rfl rfl ?_
      refine cl_27_1 rfl hd_29 rfl ?_
      exact H
    · intro hc2 H
      refine xr_44 rfl ?_
      refine xo_2 rfl rfl ?_
      refine cl_27_1 rfl hd_29 rfl ?_
      exact H
theorem sm_29_165 {q1 : Option Value} (hq1 : am_nl q1 = true) (H : (if (h 1 7) = 3 then am_X L xs d 27 0 [some (.ref 1)] [] am_C0 h o g (fun w h' o' g' => am_X L xs (d + 1) 29 190 [some (.ref 1), q1] (w.toList ++ []) am_C0 h' o' g' Q T) T else (if (h 1 3) = 0 then am_X L xs d 27 0 [some (.ref 1)] [] am_C0 (am_set (am_set h 1 3 1) 1 1 (h 1 6)) o g (fun w h' o' g' => am_X L xs (d + 1) 29 190 [some (.ref 1), q1] (w.toList ++ []) am_C0 h' o' g' Q T) T else am_X L xs d 27 0 [some (.ref 1)] [] am_C0 h o g (fun w h' o' g' => am_X L xs (d + 1) 29 190 [some (.ref 1), q1] (w.toList ++ []) am_C0 h' o' g' Q T) T))) : am_X L xs (d + 1) 29 165 [some (.ref 1), q1] [] am_C0 h o g Q T := by
  refine xo_12 rfl ?_
  refine xo_2 rfl rfl ?_
  refine xo_13 rfl cf_1_7 ?_
  refine xo_0 rfl ?_
  refine xo_11eq rfl (am_sp ?_ ?_ H)
  · intro hc1 H
    refine xo_2 rfl rfl ?_
    refine cl_27_1 rfl hd_29 rfl ?_
    exact H
  · intro hc1 H
    refine xo_2 rfl rfl ?_
    refine xo_0 rfl ?_
    refine cl_32_1 rfl hd_29 rfl ?_
    refine xo_2 rfl rfl ?_
    refine xo_13 rfl cf_1_3 ?_
    refine xo_10ne rfl (am_sp ?_ ?_ H)
    · intro hc2 H
      refine xo_2 rfl rfl ?_
      refine xo_1 rfl rfl ?_
      refine xo_14 rfl cf_1_3 ?_
      refine xo_2 rfl rfl ?_
      refine xo_2 rfl rfl ?_
      refine xo_13 rfl cf_1_6 ?_
      refine xo_14 rfl cf_1_1 ?_
      refine xr_44 rfl ?_
      refine xo_2 rfl rfl ?_
      refine cl_27_1 rfl hd_29 rfl ?_
      exact H
    · intro hc2 H
      refine xr_44 rfl ?_
      refine xo_2 rfl rfl ?_
      refine cl_27_1 rfl hd_29 rfl ?_
      exact H
