/-! ===== until: both sides ===== -/
theorem op_until {h : am_M} (hI : Iv h) (p s b : Int32) : opR 110 [some (.ref 0), some (.int p), some (.int s), some (.int b), none, none, none, none, none, none] 195 [some (.ref 64), some (.int p), some (.int s), some (.int b), none] cdN h := by
  have hI' := hI
  obtain ⟨hT, hP, ⟨N, hN, e1, e2, hE, hG, hJ, hS⟩, hII, hR, hK⟩ := hI'
  obtain ⟨p0, p1, p2, p3, p4, p5, p6⟩ := hP.1
  obtain ⟨b0, b1, b2, b3, b4, b5, b6, b7, b8, b9, b10, b11, b12, b13⟩ := hP.2.1
  have b3' : ¬ 5 < h 3 1 := by grind
  by_cases a1 : p < 0
  · exact op_fail hI (fun d L xs o g Q T hq => sm_110 (am_ift a1 (hq))) (fun d L xs o g Q T hq => sm_195 (am_ift a1 (hq)))
  by_cases a2 : p < h 3 1
  rotate_left
  · have n2 : h 68 1 - 1 < p := by rw [p1]; exact rq5n b2 b3' a2
    exact op_fail hI (fun d L xs o g Q T hq => sm_110 (am_iff a1 (am_iff a2 (hq)))) (fun d L xs o g Q T hq => sm_195 (am_iff a1 (am_ift n2 (hq))))
  have n2 : ¬ h 68 1 - 1 < p := by rw [p1]; exact rq5 b2 b3' a2
  by_cases a3 : s < 0
  · exact op_fail hI (fun d L xs o g Q T hq => sm_110 (am_iff a1 (am_ift a2 (am_ift a3 (hq))))) (fun d L xs o g Q T hq => sm_195 (am_iff a1 (am_iff n2 (am_ift a3 (hq)))))
  by_cases a4 : s < h 3 0
  rotate_left
  · have n4 : h 68 0 - 1 < s := by rw [p0]; exact rq5n b0 b1 a4
    exact op_fail hI (fun d L xs o g Q T hq => sm_110 (am_iff a1 (am_ift a2 (am_iff a3 (am_iff a4 (hq)))))) (fun d L xs o g Q T hq => sm_195 (am_iff a1 (am_iff n2 (am_iff a3 (am_ift n4 (hq))))))
  have n4 : ¬ h 68 0 - 1 < s := by rw [p0]; exact rq5 b0 b1 a4
  by_cases a5 : b < 0
  · exact op_fail hI (fun d L xs o g Q T hq => sm_110 (am_iff a1 (am_ift a2 (am_iff a3 (am_ift a4 (am_ift a5 (hq))))))) (fun d L xs o g Q T hq => sm_195 (am_iff a1 (am_iff n2 (am_iff a3 (am_iff n4 (am_ift a5 (hq)))))))
  by_cases a6 : b < h 3 2
  rotate_left
  · have n6 : h 68 2 - 1 < b := by rw [p2]; exact rq5n b4 b5 a6
    exact op_fail hI (fun d L xs o g Q T hq => sm_110 (am_iff a1 (am_ift a2 (am_iff a3 (am_ift a4 (am_iff a5 (am_iff a6 (hq)))))))) (fun d L xs o g Q T hq => sm_195 (am_iff a1 (am_iff n2 (am_iff a3 (am_iff n4 (am_iff a5 (am_ift n6 (hq))))))))
  have n6 : ¬ h 68 2 - 1 < b := by rw [p2]; exact rq5 b4 b5 a6
  have ia := iv_at a3 a4 b1
  have ib := iv_at a5 a6 b5
  have hs := hP.2.2.1 _ ia.1 ia.2.1
  obtain ⟨⟨q1, q2, q3⟩, y0, y1, y2, y3, y4, y5⟩ := hP.2.2.2 _ ib.1 ib.2.1
  obtain ⟨⟨r1, r2, r3, r4, r5⟩, r6, r7, r8, r9, r10, r11, r12, r13, r14⟩ := hs
  obtain ⟨ns, hns1, hns2, ens⟩ : ∃ ns, 1 ≤ ns ∧ ns ≤ 12 ∧ h 7 s.toNatClampNeg = Int32.ofNat ns := by
    rw [nz_lt] at r11 r12
    have c1 : (1 : Int32).toInt = 1 := rfl
    have c12 : (12 : Int32).toInt = 12 := rfl
    exact ⟨(h 7 s.toNatClampNeg).toNatClampNeg, by rw [nz_cn]; omega, by rw [nz_cn]; omega, nz_of (by omega)⟩
  have x5 : ¬ 500 < h 6 s.toNatClampNeg := by grind
  have q0 : ((h 69 s.toNatClampNeg, h 70 s.toNatClampNeg) : Int32 × Int32) = (h 4 s.toNatClampNeg, h 5 s.toNatClampNeg) := by rw [r1, r2]
  have hk := sp_kn (p := p) (s := s) (but := -1) hE (Nat.le_refl N) (h 69 s.toNatClampNeg, h 70 s.toNatClampNeg)
  rw [q0] at hk
  have H1 := mv_80 (h := h) (p := p) (s := s) (but := -1) (N := N) hN ia.2.2.1
  generalize spn (tk_kn h p s (-1)) (h 27) (h 28) (h 4 s.toNatClampNeg, h 5 s.toNatClampNeg) N = sp at H1 hk
  have H2 := mv_60 (h := wrp h 61 0 1 sp) (b := b) (x := h 6 s.toNatClampNeg) (day := 0) (n := ns) (by omega) ib.2.2.1
  have M1 := mv_172 (h := am_set (wrp h 61 0 1 sp) 64 3 0) (p := p) (s := s) (but := -1) (N := N) hN ia.2.2.2
  have hk2 : spn (tk_ms (am_set (wrp h 61 0 1 sp) 64 3 0) p s (-1)) ((am_set (wrp h 61 0 1 sp) 64 3 0) 85) ((am_set (wrp h 61 0 1 sp) 64 3 0) 87) ((am_set (wrp h 61 0 1 sp) 64 3 0) 69 s.toNatClampNeg, (am_set (wrp h 61 0 1 sp) 64 3 0) 70 s.toNatClampNeg) N = sp := by
    show spn (tk_ms h p s (-1)) (h 85) (h 87) (h 69 s.toNatClampNeg, h 70 s.toNatClampNeg) N = sp
    rw [q0]
    exact hk
  rw [hk2] at M1
  have M2 := fun n => mv_177 (h := am_set (wrp h 61 0 1 sp) 64 3 0) (s := s) (b := b) (x := h 6 s.toNatClampNeg) (day := n) (l := h 77 s.toNatClampNeg) (n := ns) (sp := sp) (by omega) r9 x5 ia.2.2.2 ib.2.2.2 (show h 72 s.toNatClampNeg = Int32.ofNat ns from r4 ▸ ens)
  have day : ∀ n : Nat, n ≤ 9999 → ¬ Int32.ofNat n < 0 ∧ ¬ 9999 < Int32.ofNat n := fun n hn => by
    rw [nz_lt, nz_lt, nz_n n (by omega)]
    have e0 : (0 : Int32).toInt = 0 := rfl
    have e9 : (9999 : Int32).toInt = 9999 := rfl
    omega
  obtain ⟨f, hf⟩ : ∃ f : Nat → Bool, ∀ n, f n = (decide (9999 < n) || decide (lwt (h 9 b.toNatClampNeg) (h 10 b.toNatClampNeg) (h 11 b.toNatClampNeg) (h 12 0) (h 6 s.toNatClampNeg) (Int32.ofNat n) ns < ned sp (h 8 s.toNatClampNeg) (h 30 s.toNatClampNeg) (h 12 1))) := ⟨_, fun _ => rfl⟩
  have hf9 : ∀ n, n ≤ 9999 → f n = decide (lwt (h 9 b.toNatClampNeg) (h 10 b.toNatClampNeg) (h 11 b.toNatClampNeg) (h 12 0) (h 6 s.toNatClampNeg) (Int32.ofNat n) ns < ned sp (h 8 s.toNatClampNeg) (h 30 s.toNatClampNeg) (h 12 1)) := fun n hn => by
    rw [hf, decide_eq_false (show ¬ 9999 < n by omega), Bool.false_or]
  have mono : ∀ i j, i ≤ j → j ≤ 10000 → f i = true → f j = true := by
    intro i j hij hj hi
    by_cases c : 9999 < j
    · rw [hf, decide_eq_true c, Bool.true_or]
    · rw [hf9 i (by omega), decide_eq_true_eq] at hi
      rw [hf9 j (by omega), decide_eq_true_eq]
      have := lw_m (q := ns) (show ns ≤ 100 by omega) y0 y1 b6 b7 r9 x5 y2 y3 y4 y5 (day i (by omega)).1 (show ¬ Int32.ofNat j < Int32.ofNat i by rw [nz_nlt (by omega) (by omega)]; omega) (day j (by omega)).2
      grind
  have B : mv 50 195 [some (.ref 64), some (.int p), some (.int s), some (.int b), none] (wrp h 61 0 1 sp) (some (.int (Int32.ofNat (upF f 0 10000) - 1))) (wrp (am_set (wrp h 61 0 1 sp) 64 3 0) 64 35 36 sp) := fun d L xs o g Q T hq => by
    refine sm_195 (am_iff a1 (am_iff n2 (am_iff a3 (am_iff n4 (am_iff a5 (am_iff n6 (?_)))))))
    rw [show (wrp h 61 0 1 sp) 64 28 = Int32.ofNat N from e2]
    refine M1.use (sm_195_46 rfl rfl (lp_195 ia.2.2.2 ia.2.2.1 rfl f (fun l hl => ?_) 10000 0 (by omega) hq))
    have := M2 (Int32.ofNat l)
    rw [show (wrp (am_set (wrp h 61 0 1 sp) 64 3 0) 64 35 36 sp) 71 s.toNatClampNeg = h 6 s.toNatClampNeg from r3.symm]
    have ev : (if sp.2 < sp.1 then (0 : Int32) else if anyF (shl (am_set (wrp h 61 0 1 sp) 64 3 0) b (h 6 s.toNatClampNeg) (Int32.ofNat l) ((sp.2 + (am_set (wrp h 61 0 1 sp) 64 3 0) 73 s.toNatClampNeg * (h 77 s.toNatClampNeg / 10)) + (am_set (wrp h 61 0 1 sp) 64 3 0) 68 4)) 0 ns = true then 0 else 1) = if f l = true then 0 else 1 := by
      show (if sp.2 < sp.1 then (0 : Int32) else if anyF (fun i => decide (wat (h 74 b.toNatClampNeg) (h 75 b.toNatClampNeg) (h 76 b.toNatClampNeg) (h 68 3) (h 6 s.toNatClampNeg + Int32.ofNat i) (Int32.ofNat l) < ((sp.2 + h 73 s.toNatClampNeg * (h 77 s.toNatClampNeg / 10)) + h 68 4))) 0 ns = true then 0 else 1) = _
      have dl := day l (by omega)
      rw [← q1, ← q2, ← q3, p3, p4, ← r5, (hG _ ia.1).1, lw_any hns1 (by omega) y0 y1 b6 b7 r9 x5 y2 y3 y4 y5 dl.1 dl.2, hf9 l (by omega)]
      unfold ned
      by_cases em : sp.2 < sp.1
      · rw [if_pos em, if_pos em]
        have := lw_top (n := ns) (show ns ≤ 100 by omega) y0 y1 b6 b7 r9 x5 y2 y3 y4 y5 dl.1 dl.2
        rw [decide_eq_true this, if_pos rfl]
      · rw [if_neg em, if_neg em]
    rw [ev] at this
    exact this
  obtain ⟨d1, d2, d3⟩ := dn_spec (n := 10000) mono 10000 (Nat.le_refl _)
  have ue := up_eq d2 d3 d1 10000 0 (by omega) (by omega)
  rw [ue] at B
  by_cases f0 : f 0 = true
  · have D0 : dnF f 10000 = 0 := by
      apply Nat.eq_zero_of_not_pos
      intro hc
      rw [d2 0 hc] at f0
      cases f0
    rw [D0] at B
    have c0 : lwt (h 9 b.toNatClampNeg) (h 10 b.toNatClampNeg) (h 11 b.toNatClampNeg) (h 12 0) (h 6 s.toNatClampNeg) 0 ns < ned sp (h 8 s.toNatClampNeg) (h 30 s.toNatClampNeg) (h 12 1) := by
      rw [hf9 0 (by omega), decide_eq_true_eq] at f0
      exact f0
    have A : mv 50 110 [some (.ref 0), some (.int p), some (.int s), some (.int b), none, none, none, none, none, none] h (some (.int (-1))) (wrp h 61 0 1 sp) := fun d L xs o g Q T hq => by
      refine sm_110 (am_iff a1 (am_ift a2 (am_iff a3 (am_ift a4 (am_iff a5 (am_ift a6 (?_)))))))
      rw [e1]
      refine H1.use (sm_110_29 rfl rfl rfl rfl rfl rfl rfl ⟨ia.2.2.1, ?_⟩)
      rw [show (wrp h 61 0 1 sp) 7 s.toNatClampNeg = Int32.ofNat ns from ens]
      exact H2.use (sm_110_64 rfl rfl rfl rfl rfl (am_ift c0 hq))
    exact ⟨0, _, _, _, _, .v A, B, hI, rfl, fun _ => rfl, by decide⟩
  have c0 : ¬ lwt (h 9 b.toNatClampNeg) (h 10 b.toNatClampNeg) (h 11 b.toNatClampNeg) (h 12 0) (h 6 s.toNatClampNeg) 0 ns < ned sp (h 8 s.toNatClampNeg) (h 30 s.toNatClampNeg) (h 12 1) := by
    rw [hf9 0 (by omega), decide_eq_true_eq] at f0
    exact f0
  have Dp : 0 < dnF f 10000 := by
    apply Nat.pos_of_ne_zero
    intro hc
    exact f0 (d3 0 (by omega) (by omega))
  have bs := bs_eq (f := f) (D := dnF f 10000 - 1) (fun i hi => d2 i (by omega)) (fun i hi hi' => d3 i (by omega) (by omega)) 14 0 9999 (by omega) (by omega) (by omega) (by decide)
  have A : mv 50 110 [some (.ref 0), some (.int p), some (.int s), some (.int b), none, none, none, none, none, none] h (some (.int (Int32.ofNat (bsF f 14 0 9999)))) (wrp h 61 0 1 sp) := fun d L xs o g Q T hq => by
    refine sm_110 (am_iff a1 (am_ift a2 (am_iff a3 (am_ift a4 (am_iff a5 (am_ift a6 (?_)))))))
    rw [e1]
    refine H1.use (sm_110_29 rfl rfl rfl rfl rfl rfl rfl ⟨ia.2.2.1, ?_⟩)
    rw [show (wrp h 61 0 1 sp) 7 s.toNatClampNeg = Int32.ofNat ns from ens]
    exact H2.use (sm_110_64 rfl rfl rfl rfl rfl (am_iff c0 (lp_110 (h := wrp h 61 0 1 sp) (by omega) ia.2.2.1 ib.2.2.1 ens rfl f hf9 14 0 9999 none rfl (by omega) (by omega) (by omega) hq)))
  refine ⟨0, _, _, _, _, .v A, B, hI, rfl, fun _ => ?_, by decide⟩
  rw [bs]
  have : Int32.ofNat (dnF f 10000) = Int32.ofNat (dnF f 10000 - 1) + 1 := by rw [nz_succ]; congr 1; omega
  rw [this, Int32.add_sub_cancel]
