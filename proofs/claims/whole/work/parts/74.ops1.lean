/-! ===== calls one by one ===== -/
theorem op_fail {m1 m2 : Nat} {lv1 lv2 : am_V} {h : am_M} (hI : Iv h) (H1 : mt 50 m1 lv1 h 0 h) (H2 : mv 50 m2 lv2 h (some (.int 0)) (am_set (am_set h 64 3 0) 64 3 1)) : opR m1 lv1 m2 lv2 cdN h := ⟨1, 0, 0, h, _, .t 0 H1, H2, hI, rfl, fun e => absurd e (by decide), by decide⟩
theorem op_fail2 {m1 m2 : Nat} {lv1 lv2 : am_V} {h : am_M} (hI : Iv h) (H1 : mt 50 m1 lv1 h 1 h) (H2 : mv 50 m2 lv2 h (some (.int 0)) (am_set (am_set h 64 3 0) 64 3 2)) : opR m1 lv1 m2 lv2 cdN h := ⟨2, 0, 0, h, _, .t 1 H1, H2, hI, rfl, fun e => absurd e (by decide), by decide⟩
theorem rq5 {x n : Int32} (h0 : ¬ n < 0) (h5 : ¬ 5 < n) (hx : x < n) : ¬ n - 1 < x := by grind
theorem rq5n {x n : Int32} (h0 : ¬ n < 0) (h5 : ¬ 5 < n) (hx : ¬ x < n) : n - 1 < x := by grind
theorem nb_bool {x : Int32} (h : x = 0 ∨ x = 1) : vp_nar .boolean x = x := by
  rcases h with h | h
  · subst h; rfl
  · subst h; rfl
theorem op_count {h : am_M} (hI : Iv h) (x : Int32) : opR 42 [some (.ref 0), some (.int x)] 149 [some (.ref 64), some (.int x)] cdN h := by
  have hI' := hI
  obtain ⟨hT, ⟨⟨p0, p1, p2, p3, p4, p5, p6⟩, _, _⟩, ⟨N, hN, e1, e2, hE, hG, hJ, hS⟩, _⟩ := hI'
  by_cases c0 : x = 0
  · exact ⟨0, h 3 0, h 68 0, h, am_set h 64 3 0, .v fun d L xs o g Q T hq => sm_42 (am_ift c0 hq), fun d L xs o g Q T hq => sm_149 (am_iff (by subst c0; decide) (am_iff (by subst c0; decide) ⟨by subst c0; exact am_ix.lit rfl, by subst c0; exact hq⟩)), hI, rfl, fun _ => p0.symm, by decide⟩
  by_cases c1 : x = 1
  · exact ⟨0, h 3 1, h 68 1, h, am_set h 64 3 0, .v fun d L xs o g Q T hq => sm_42 (am_iff c0 (am_ift c1 hq)), fun d L xs o g Q T hq => sm_149 (am_iff (by subst c1; decide) (am_iff (by subst c1; decide) ⟨by subst c1; exact am_ix.lit rfl, by subst c1; exact hq⟩)), hI, rfl, fun _ => p1.symm, by decide⟩
  by_cases c2 : x = 2
  · exact ⟨0, h 3 2, h 68 2, h, am_set h 64 3 0, .v fun d L xs o g Q T hq => sm_42 (am_iff c0 (am_iff c1 (am_ift c2 hq))), fun d L xs o g Q T hq => sm_149 (am_iff (by subst c2; decide) (am_iff (by subst c2; decide) ⟨by subst c2; exact am_ix.lit rfl, by subst c2; exact hq⟩)), hI, rfl, fun _ => p2.symm, by decide⟩
  by_cases c3 : x = 3
  · exact ⟨0, h 12 0, h 68 3, h, am_set h 64 3 0, .v fun d L xs o g Q T hq => sm_42 (am_iff c0 (am_iff c1 (am_iff c2 (am_ift c3 hq)))), fun d L xs o g Q T hq => sm_149 (am_iff (by subst c3; decide) (am_iff (by subst c3; decide) ⟨by subst c3; exact am_ix.lit rfl, by subst c3; exact hq⟩)), hI, rfl, fun _ => p3.symm, by decide⟩
  by_cases c4 : x = 4
  · exact ⟨0, h 12 1, h 68 4, h, am_set h 64 3 0, .v fun d L xs o g Q T hq => sm_42 (am_iff c0 (am_iff c1 (am_iff c2 (am_iff c3 (am_ift c4 hq))))), fun d L xs o g Q T hq => sm_149 (am_iff (by subst c4; decide) (am_iff (by subst c4; decide) ⟨by subst c4; exact am_ix.lit rfl, by subst c4; exact hq⟩)), hI, rfl, fun _ => p4.symm, by decide⟩
  by_cases c5 : x = 5
  · exact ⟨0, h 12 2, h 68 5, h, am_set h 64 3 0, .v fun d L xs o g Q T hq => sm_42 (am_iff c0 (am_iff c1 (am_iff c2 (am_iff c3 (am_iff c4 (am_ift c5 hq)))))), fun d L xs o g Q T hq => sm_149 (am_iff (by subst c5; decide) (am_iff (by subst c5; decide) ⟨by subst c5; exact am_ix.lit rfl, by subst c5; exact hq⟩)), hI, rfl, fun _ => p5.symm, by decide⟩
  by_cases c6 : x = 6
  · exact ⟨0, h 12 3, h 68 6, h, am_set h 64 3 0, .v fun d L xs o g Q T hq => sm_42 (am_iff c0 (am_iff c1 (am_iff c2 (am_iff c3 (am_iff c4 (am_iff c5 (am_ift c6 hq))))))), fun d L xs o g Q T hq => sm_149 (am_iff (by subst c6; decide) (am_iff (by subst c6; decide) ⟨by subst c6; exact am_ix.lit rfl, by subst c6; exact hq⟩)), hI, rfl, fun _ => p6.symm, by decide⟩
  by_cases c7 : x = 7
  · exact ⟨0, h 23 0, h 64 28, h, am_set h 64 3 0, .v fun d L xs o g Q T hq => sm_42 (am_iff c0 (am_iff c1 (am_iff c2 (am_iff c3 (am_iff c4 (am_iff c5 (am_iff c6 (am_ift c7 hq)))))))), fun d L xs o g Q T hq => sm_149 (am_iff (by subst c7; decide) (am_ift (by subst c7; decide) (am_ift c7 hq))), hI, rfl, fun _ => e1.trans e2.symm, by decide⟩
  by_cases c8 : x = 8
  · exact ⟨0, h 1 0, h 64 18, h, am_set h 64 3 0, .v fun d L xs o g Q T hq => sm_42 (am_iff c0 (am_iff c1 (am_iff c2 (am_iff c3 (am_iff c4 (am_iff c5 (am_iff c6 (am_iff c7 (am_ift c8 hq))))))))), fun d L xs o g Q T hq => sm_149 (am_iff (by subst c8; decide) (am_ift (by subst c8; decide) (am_iff c7 (am_ift c8 hq)))), hI, rfl, fun _ => hT.1, by decide⟩
  by_cases c9 : x = 9
  · exact ⟨0, h 33 0, h 78 0, h, am_set h 64 3 0, .v fun d L xs o g Q T hq => sm_42 (am_iff c0 (am_iff c1 (am_iff c2 (am_iff c3 (am_iff c4 (am_iff c5 (am_iff c6 (am_iff c7 (am_iff c8 (am_ift c9 hq)))))))))), fun d L xs o g Q T hq => sm_149 (am_iff (by subst c9; decide) (am_ift (by subst c9; decide) (am_iff c7 (am_iff c8 (am_ift c9 ⟨by subst c9; exact am_ix.lit rfl, by subst c9; exact hq⟩))))), hI, rfl, fun _ => hJ.1.symm, by decide⟩
  by_cases c10 : x = 10
  · exact ⟨0, h 33 1, h 78 1, h, am_set h 64 3 0, .v fun d L xs o g Q T hq => sm_42 (am_iff c0 (am_iff c1 (am_iff c2 (am_iff c3 (am_iff c4 (am_iff c5 (am_iff c6 (am_iff c7 (am_iff c8 (am_iff c9 (am_ift c10 hq))))))))))), fun d L xs o g Q T hq => sm_149 (am_iff (by subst c10; decide) (am_ift (by subst c10; decide) (am_iff c7 (am_iff c8 (am_iff c9 (am_ift c10 ⟨by subst c10; exact am_ix.lit rfl, by subst c10; exact hq⟩)))))), hI, rfl, fun _ => hJ.2.1.symm, by decide⟩
  by_cases c11 : x = 11
  · exact ⟨0, h 33 2, h 78 2, h, am_set h 64 3 0, .v fun d L xs o g Q T hq => sm_42 (am_iff c0 (am_iff c1 (am_iff c2 (am_iff c3 (am_iff c4 (am_iff c5 (am_iff c6 (am_iff c7 (am_iff c8 (am_iff c9 (am_iff c10 (am_ift c11 hq)))))))))))), fun d L xs o g Q T hq => sm_149 (am_iff (by subst c11; decide) (am_ift (by subst c11; decide) (am_iff c7 (am_iff c8 (am_iff c9 (am_iff c10 (am_ift c11 ⟨by subst c11; exact am_ix.lit rfl, by subst c11; exact hq⟩))))))), hI, rfl, fun _ => hJ.2.2.symm, by decide⟩
  refine op_fail hI (fun d L xs o g Q T hq => sm_42 (am_iff c0 (am_iff c1 (am_iff c2 (am_iff c3 (am_iff c4 (am_iff c5 (am_iff c6 (am_iff c7 (am_iff c8 (am_iff c9 (am_iff c10 (am_iff c11 (hq)))))))))))))) (fun d L xs o g Q T hq => sm_149 ?_)
  by_cases a1 : x < 0
  · exact am_ift a1 (am_iff c7 (am_iff c8 (am_iff c9 (am_iff c10 (am_iff c11 (hq))))))
  · have a2 : 6 < x := by grind
    exact am_iff a1 (am_ift a2 (am_iff c7 (am_iff c8 (am_iff c9 (am_iff c10 (am_iff c11 (hq)))))))
theorem op_load {h : am_M} (hI : Iv h) (x y : Int32) : opR 63 [some (.ref 0), some (.int x), some (.int y)] 164 [some (.ref 64), some (.int x), some (.int y), none] cdN h := by
  have hI' := hI
  obtain ⟨hT, hP, ⟨N, hN, e1, e2, hE, hG, hJ, hS⟩, hII, hR, hK⟩ := hI'
  have p0 := hP.1.1
  have b0 := hP.2.1.1
  have b1 := hP.2.1.2.1
  by_cases a1 : x < 0
  · exact op_fail hI (fun d L xs o g Q T hq => sm_63 (am_ift a1 hq)) (fun d L xs o g Q T hq => sm_164 (am_ift a1 hq))
  by_cases a2 : x < h 3 0
  · have n2 : ¬ h 68 0 - 1 < x := by rw [p0]; exact rq5 b0 b1 a2
    have ia := iv_at a1 a2 b1
    by_cases a3 : y < 0
    · exact ⟨0, 0, 0, h, am_set h 64 3 0, .v fun d L xs o g Q T hq => sm_63 (am_iff a1 (am_ift a2 (am_ift a3 hq))), fun d L xs o g Q T hq => sm_164 (am_iff a1 (am_iff n2 (am_ift a3 hq))), hI, rfl, fun _ => rfl, by decide⟩
    by_cases a4 : 99 < y
    · exact ⟨0, 0, 0, h, am_set h 64 3 0, .v fun d L xs o g Q T hq => sm_63 (am_iff a1 (am_ift a2 (am_iff a3 (am_ift a4 hq)))), fun d L xs o g Q T hq => sm_164 (am_iff a1 (am_iff n2 (am_iff a3 (am_ift a4 hq)))), hI, rfl, fun _ => rfl, by decide⟩
    refine ⟨0, 1, 1, am_set h 30 x.toNatClampNeg y, am_set (am_set (am_set h 30 x.toNatClampNeg y) 64 3 0) 77 x.toNatClampNeg y, .v fun d L xs o g Q T hq => sm_63 (am_iff a1 (am_ift a2 (am_iff a3 (am_iff a4 ⟨ia.2.2.1, hq⟩)))), fun d L xs o g Q T hq => sm_164 (am_iff a1 (am_iff n2 (am_iff a3 (am_iff a4 ⟨ia.2.2.1, hq⟩)))), ⟨hT, hP, ⟨N, hN, e1, e2, hE, fun j hj => ?_, hJ, hS⟩, hII, hR, hK⟩, rfl, fun _ => rfl, by decide⟩
    have hg := hG j hj
    show upd (h 77) x.toNatClampNeg y j = upd (h 30) x.toNatClampNeg y j ∧ h 79 j = h 31 j ∧ h 80 j = h 32 j ∧ ¬ upd (h 30) x.toNatClampNeg y j < 0 ∧ ¬ 99 < upd (h 30) x.toNatClampNeg y j ∧ ¬ h 32 j < h 31 j
    by_cases e : j = x.toNatClampNeg
    · simp only [upd, if_pos e]
      exact ⟨trivial, hg.2.1, hg.2.2.1, a3, a4, hg.2.2.2.2.2⟩
    · simp only [upd, if_neg e]
      exact hg
  · have n2 : h 68 0 - 1 < x := by rw [p0]; exact rq5n b0 b1 a2
    exact op_fail hI (fun d L xs o g Q T hq => sm_63 (am_iff a1 (am_iff a2 hq))) (fun d L xs o g Q T hq => sm_164 (am_iff a1 (am_ift n2 hq)))
theorem op_row {h : am_M} (hI : Iv h) (x y : Int32) : opR 95 [some (.ref 0), some (.int x), some (.int y)] 189 [some (.ref 64), some (.int x), some (.int y)] cdN h := by
  have hI' := hI
  obtain ⟨hT, hP, hNn, hII, hR, hK⟩ := hI'
  have p0 := hP.1.1
  have b0 := hP.2.1.1
  have b1 := hP.2.1.2.1
  by_cases a1 : x < 0
  · exact op_fail hI (fun d L xs o g Q T hq => sm_95 (am_ift a1 hq)) (fun d L xs o g Q T hq => sm_189 (am_ift a1 hq))
  by_cases a2 : x < h 3 0
  · have n2 : ¬ h 68 0 - 1 < x := by rw [p0]; exact rq5 b0 b1 a2
    have ia := iv_at a1 a2 b1
    rcases hR.2 with hr | ⟨hr, hrow⟩
    · have hr' : h 64 45 = 0 := hR.1.trans hr
      have H2 : mv 50 189 [some (.ref 64), some (.int x), some (.int y)] h (some (.int 0)) (am_set (am_set h 64 3 0) 64 3 1) := fun d L xs o g Q T hq => sm_189 (am_iff a1 (am_iff n2 (am_ift hr' hq)))
      by_cases a3 : y < 0
      · exact op_fail hI (fun d L xs o g Q T hq => sm_95 (am_iff a1 (am_ift a2 (am_ift a3 hq)))) H2
      by_cases a4 : 1 < y
      · exact op_fail hI (fun d L xs o g Q T hq => sm_95 (am_iff a1 (am_ift a2 (am_iff a3 (am_ift a4 hq))))) H2
      · exact op_fail hI (fun d L xs o g Q T hq => sm_95 (am_iff a1 (am_ift a2 (am_iff a3 (am_iff a4 (am_ift hr hq)))))) H2
    · have z : ¬ h 0 11 = 0 := by rw [hr]; decide
      have z' : ¬ h 64 45 = 0 := by rw [hR.1]; exact z
      have hw := hrow _ ia.1 ia.2.1
      by_cases c0 : y = 0
      · have a3 : ¬ y < 0 := by subst c0; decide
        have a4 : ¬ 1 < y := by subst c0; decide
        exact ⟨0, h 62 x.toNatClampNeg, h 93 x.toNatClampNeg, h, am_set h 64 3 0, .v fun d L xs o g Q T hq => sm_95 (am_iff a1 (am_ift a2 (am_iff a3 (am_iff a4 (am_iff z (am_ift c0 ⟨ia.2.2.1, hq⟩)))))), fun d L xs o g Q T hq => sm_189 (am_iff a1 (am_iff n2 (am_iff z' (am_ift c0 ⟨ia.2.2.1, hq⟩)))), hI, rfl, fun _ => hw.1.symm, by decide⟩
      by_cases c1 : y = 1
      · have a3 : ¬ y < 0 := by subst c1; decide
        have a4 : ¬ 1 < y := by subst c1; decide
        exact ⟨0, h 63 x.toNatClampNeg, h 94 x.toNatClampNeg, h, am_set h 64 3 0, .v fun d L xs o g Q T hq => sm_95 (am_iff a1 (am_ift a2 (am_iff a3 (am_iff a4 (am_iff z (am_iff c0 ⟨ia.2.2.1, hq⟩)))))), fun d L xs o g Q T hq => sm_189 (am_iff a1 (am_iff n2 (am_iff z' (am_iff c0 (am_ift c1 ⟨ia.2.2.1, hq⟩))))), hI, rfl, fun _ => hw.2.symm, by decide⟩
      have H2 : mv 50 189 [some (.ref 64), some (.int x), some (.int y)] h (some (.int 0)) (am_set (am_set h 64 3 0) 64 3 1) := fun d L xs o g Q T hq => sm_189 (am_iff a1 (am_iff n2 (am_iff z' (am_iff c0 (am_iff c1 hq)))))
      by_cases a3 : y < 0
      · exact op_fail hI (fun d L xs o g Q T hq => sm_95 (am_iff a1 (am_ift a2 (am_ift a3 hq)))) H2
      · have a4 : 1 < y := by grind
        exact op_fail hI (fun d L xs o g Q T hq => sm_95 (am_iff a1 (am_ift a2 (am_iff a3 (am_ift a4 hq))))) H2
  · have n2 : h 68 0 - 1 < x := by rw [p0]; exact rq5n b0 b1 a2
    exact op_fail hI (fun d L xs o g Q T hq => sm_95 (am_iff a1 (am_iff a2 hq))) (fun d L xs o g Q T hq => sm_189 (am_iff a1 (am_ift n2 hq)))
theorem op_name {h : am_M} (hI : Iv h) (x y z : Int32) : opR 119 [some (.ref 0), some (.int x), some (.int y), some (.int z)] 199 [some (.ref 64), some (.int x), some (.int y), some (.int z)] cdN h := by
  have hI' := hI
  obtain ⟨hT, hP, ⟨N, hN, e1, e2, hE, hG, hJ, hS⟩, hII, hR, hK⟩ := hI'
  have p0 := hP.1.1
  have b0 := hP.2.1.1
  have b1 := hP.2.1.2.1
  by_cases a1 : x < 0
  · exact op_fail hI (fun d L xs o g Q T hq => sm_119 (am_ift a1 hq)) (fun d L xs o g Q T hq => sm_199 (am_ift a1 hq))
  by_cases a2 : x < h 3 0
  · have n2 : ¬ h 68 0 - 1 < x := by rw [p0]; exact rq5 b0 b1 a2
    have ia := iv_at a1 a2 b1
    have hf : Iv (am_set (am_set (am_set h 33 2 (h 33 2 + 1)) 64 3 0) 78 2 (h 78 2 + 1)) := ⟨hT, hP, ⟨N, hN, e1, e2, hE, hG, ⟨hJ.1, hJ.2.1, by show h 78 2 + 1 = h 33 2 + 1; rw [hJ.2.2]⟩, hS⟩, hII, hR, hK⟩
    by_cases a3 : y < 0
    · exact ⟨0, 0, 0, am_set h 33 2 (h 33 2 + 1), am_set (am_set (am_set h 33 2 (h 33 2 + 1)) 64 3 0) 78 2 (h 78 2 + 1), .v fun d L xs o g Q T hq => sm_119 (am_iff a1 (am_ift a2 (am_ift a3 hq))), fun d L xs o g Q T hq => sm_199 (am_iff a1 (am_iff n2 (am_ift a3 hq))), hf, rfl, fun _ => rfl, by decide⟩
    by_cases a4 : 60 < z
    · by_cases a5 : z < y
      · exact ⟨0, 0, 0, am_set h 33 2 (h 33 2 + 1), am_set (am_set (am_set h 33 2 (h 33 2 + 1)) 64 3 0) 78 2 (h 78 2 + 1), .v fun d L xs o g Q T hq => sm_119 (am_iff a1 (am_ift a2 (am_iff a3 (am_ift a5 hq)))), fun d L xs o g Q T hq => sm_199 (am_iff a1 (am_iff n2 (am_iff a3 (am_ift a4 hq)))), hf, rfl, fun _ => rfl, by decide⟩
      · exact ⟨0, 0, 0, am_set h 33 2 (h 33 2 + 1), am_set (am_set (am_set h 33 2 (h 33 2 + 1)) 64 3 0) 78 2 (h 78 2 + 1), .v fun d L xs o g Q T hq => sm_119 (am_iff a1 (am_ift a2 (am_iff a3 (am_iff a5 (am_ift a4 hq))))), fun d L xs o g Q T hq => sm_199 (am_iff a1 (am_iff n2 (am_iff a3 (am_ift a4 hq)))), hf, rfl, fun _ => rfl, by decide⟩
    by_cases a5 : z < y
    · exact ⟨0, 0, 0, am_set h 33 2 (h 33 2 + 1), am_set (am_set (am_set h 33 2 (h 33 2 + 1)) 64 3 0) 78 2 (h 78 2 + 1), .v fun d L xs o g Q T hq => sm_119 (am_iff a1 (am_ift a2 (am_iff a3 (am_ift a5 hq)))), fun d L xs o g Q T hq => sm_199 (am_iff a1 (am_iff n2 (am_iff a3 (am_iff a4 (am_ift a5 hq))))), hf, rfl, fun _ => rfl, by decide⟩
    refine ⟨0, 1, 1, am_set (am_set h 31 x.toNatClampNeg y) 32 x.toNatClampNeg z, am_set (am_set (am_set (am_set (am_set h 31 x.toNatClampNeg y) 32 x.toNatClampNeg z) 64 3 0) 79 x.toNatClampNeg y) 80 x.toNatClampNeg z, .v fun d L xs o g Q T hq => sm_119 (am_iff a1 (am_ift a2 (am_iff a3 (am_iff a5 (am_iff a4 ⟨ia.2.2.1, hq⟩))))), fun d L xs o g Q T hq => sm_199 (am_iff a1 (am_iff n2 (am_iff a3 (am_iff a4 (am_iff a5 ⟨ia.2.2.1, hq⟩))))), ⟨hT, hP, ⟨N, hN, e1, e2, hE, fun j hj => ?_, hJ, hS⟩, hII, hR, hK⟩, rfl, fun _ => rfl, by decide⟩
    have hg := hG j hj
    show h 77 j = h 30 j ∧ upd (h 79) x.toNatClampNeg y j = upd (h 31) x.toNatClampNeg y j ∧ upd (h 80) x.toNatClampNeg z j = upd (h 32) x.toNatClampNeg z j ∧ ¬ h 30 j < 0 ∧ ¬ 99 < h 30 j ∧ ¬ upd (h 32) x.toNatClampNeg z j < upd (h 31) x.toNatClampNeg y j
    by_cases e : j = x.toNatClampNeg
    · simp only [upd, if_pos e]
      exact ⟨hg.1, trivial, trivial, hg.2.2.2.1, hg.2.2.2.2.1, a5⟩
    · simp only [upd, if_neg e]
      exact hg
  · have n2 : h 68 0 - 1 < x := by rw [p0]; exact rq5n b0 b1 a2
    exact op_fail hI (fun d L xs o g Q T hq => sm_119 (am_iff a1 (am_iff a2 hq))) (fun d L xs o g Q T hq => sm_199 (am_iff a1 (am_ift n2 hq)))
