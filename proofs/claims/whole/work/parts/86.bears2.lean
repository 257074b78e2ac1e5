/-! ===== bears: both sides ===== -/
theorem spn_b {tk : Nat → Bool} {D T : Nat → Int32} {s : Int32 × Int32} : ∀ n, ¬ s.2 < (spn tk D T s n).2 ∧ ¬ (spn tk D T s n).1 < s.1
  | 0 => ⟨by show ¬ s.2 < s.2; grind, by show ¬ s.1 < s.1; grind⟩
  | n + 1 => by
    obtain ⟨a, b⟩ := spn_b (tk := tk) (D := D) (T := T) (s := s) n
    simp only [spn]
    generalize spn tk D T s n = q at a b
    unfold sp_cut
    split
    · split
      · refine ⟨?_, b⟩
        simp only
        split <;> grind
      · refine ⟨a, ?_⟩
        simp only
        split <;> grind
    · exact ⟨a, b⟩
section
variable {L : Nat} {xs : Nat → Int32} {d : Nat} {h : am_M} {o : am_L} {g : Nat} {Q : Option Value → am_M → am_L → Nat → Prop} {T : Nat → am_M → am_L → Nat → Prop}
/-- the model's loop over loads: f l says that isSafe is 0 at load l -/
theorem lp_196 {s b : Int32} (hs : am_ix s 10) {q1 : Option Value} (h1 : am_nl q1 = true) (f : Nat → Bool) (hf : ∀ l, l < 100 → mv 3 177 [some (.ref 64), some (.int s), some (.int b), some (.int (h 71 s.toNatClampNeg)), some (.int 0), some (.int (Int32.ofNat l))] h (some (.int (if f l = true then 0 else 1))) h) : ∀ m k, k + m = 100 → Q (some (.int (Int32.ofNat (upF f k m) - 1))) h o g → am_X L xs (d + 4) 196 49 [some (.ref 64), q1, some (.int s), some (.int b), some (.int (Int32.ofNat k))] [] am_C0 h o g Q T := by
  intro m
  induction m with
  | zero =>
    intro k hk hq
    have : k = 100 := by omega
    subst this
    exact sm_196_49 h1 (am_ift (by decide) hq)
  | succ m ih =>
    intro k hk hq
    refine sm_196_49 h1 (am_iff ?_ ⟨hs, (hf k (by omega)).use (sm_196_71 h1 ?_)⟩)
    · show ¬ Int32.ofNat 99 < Int32.ofNat k
      rw [nz_nlt (by decide) (by omega)]; omega
    · rw [nz_succ k]
      simp only [upF] at hq
      by_cases c : f k = true
      · rw [if_pos c] at hq ⊢
        exact am_ift rfl hq
      · rw [if_neg c] at hq ⊢
        exact am_iff (by decide) (ih (k + 1) (by omega) hq)
end
theorem op_bears {h : am_M} (hI : Iv h) (p s b : Int32) : opR 112 [some (.ref 0), some (.int p), some (.int s), some (.int b), none, none] 196 [some (.ref 64), some (.int p), some (.int s), some (.int b), none] cdN h := by
  have hI' := hI
  obtain ⟨hT, hP, ⟨N, hN, e1, e2, hE, hG, hJ, hS⟩, hII, hR, hK⟩ := hI'
  obtain ⟨p0, p1, p2, p3, p4, p5, p6⟩ := hP.1
  obtain ⟨b0, b1, b2, b3, b4, b5, b6, b7, b8, b9, b10, b11, b12, b13⟩ := hP.2.1
  have b3' : ¬ 5 < h 3 1 := by grind
  by_cases a1 : p < 0
  · exact op_fail hI (fun d L xs o g Q T hq => sm_112 (am_ift a1 (hq))) (fun d L xs o g Q T hq => sm_196 (am_ift a1 (hq)))
  by_cases a2 : p < h 3 1
  rotate_left
  · have n2 : h 68 1 - 1 < p := by rw [p1]; exact rq5n b2 b3' a2
    exact op_fail hI (fun d L xs o g Q T hq => sm_112 (am_iff a1 (am_iff a2 (hq)))) (fun d L xs o g Q T hq => sm_196 (am_iff a1 (am_ift n2 (hq))))
  have n2 : ¬ h 68 1 - 1 < p := by rw [p1]; exact rq5 b2 b3' a2
  by_cases a3 : s < 0
  · exact op_fail hI (fun d L xs o g Q T hq => sm_112 (am_iff a1 (am_ift a2 (am_ift a3 (hq))))) (fun d L xs o g Q T hq => sm_196 (am_iff a1 (am_iff n2 (am_ift a3 (hq)))))
  by_cases a4 : s < h 3 0
  rotate_left
  · have n4 : h 68 0 - 1 < s := by rw [p0]; exact rq5n b0 b1 a4
    exact op_fail hI (fun d L xs o g Q T hq => sm_112 (am_iff a1 (am_ift a2 (am_iff a3 (am_iff a4 (hq)))))) (fun d L xs o g Q T hq => sm_196 (am_iff a1 (am_iff n2 (am_iff a3 (am_ift n4 (hq))))))
  have n4 : ¬ h 68 0 - 1 < s := by rw [p0]; exact rq5 b0 b1 a4
  by_cases a5 : b < 0
  · exact op_fail hI (fun d L xs o g Q T hq => sm_112 (am_iff a1 (am_ift a2 (am_iff a3 (am_ift a4 (am_ift a5 (hq))))))) (fun d L xs o g Q T hq => sm_196 (am_iff a1 (am_iff n2 (am_iff a3 (am_iff n4 (am_ift a5 (hq)))))))
  by_cases a6 : b < h 3 2
  rotate_left
  · have n6 : h 68 2 - 1 < b := by rw [p2]; exact rq5n b4 b5 a6
    exact op_fail hI (fun d L xs o g Q T hq => sm_112 (am_iff a1 (am_ift a2 (am_iff a3 (am_ift a4 (am_iff a5 (am_iff a6 (hq)))))))) (fun d L xs o g Q T hq => sm_196 (am_iff a1 (am_iff n2 (am_iff a3 (am_iff n4 (am_iff a5 (am_ift n6 (hq))))))))
  have n6 : ¬ h 68 2 - 1 < b := by rw [p2]; exact rq5 b4 b5 a6
  have ia := iv_at a3 a4 b1
  have ib := iv_at a5 a6 b5
  have hs := hP.2.2.1 _ ia.1 ia.2.1
  obtain ⟨⟨q1, q2, q3⟩, y0, y1, y2, y3, y4, y5⟩ := hP.2.2.2 _ ib.1 ib.2.1
  obtain ⟨⟨r1, r2, r3, r4, r5⟩, r6, r7, r8, r9, r10, r11, r12, r13, r14⟩ := hs
  obtain ⟨ns, hns1, hns2, ens⟩ : ∃ ns, 1 ≤ ns ∧ ns ≤ 12 ∧ h 7 s.toNatClampNeg = Int32.ofNat ns := by
    rw [nz_lt] at r11 r12
    have c1 : (1 : Int32).toInt = 1 := rfl
    have c12 : (12 : Int32).toInt = 12 := rfl
    exact ⟨(h 7 s.toNatClampNeg).toNatClampNeg, by rw [nz_cn]; omega, by rw [nz_cn]; omega, nz_of (by omega)⟩
  have x5 : ¬ 500 < h 6 s.toNatClampNeg := by grind
  have q0 : ((h 69 s.toNatClampNeg, h 70 s.toNatClampNeg) : Int32 × Int32) = (h 4 s.toNatClampNeg, h 5 s.toNatClampNeg) := by rw [r1, r2]
  have hk := sp_kn (p := p) (s := s) (but := -1) hE (Nat.le_refl N) (h 69 s.toNatClampNeg, h 70 s.toNatClampNeg)
  rw [q0] at hk
  have sb := spn_b (tk := tk_kn h p s (-1)) (D := h 27) (T := h 28) (s := (h 4 s.toNatClampNeg, h 5 s.toNatClampNeg)) N
  have H1 : mv 2 99 [some (.ref 0), some (.int p), some (.int s)] h none (wrp h 61 0 1 (spn (tk_kn h p s (-1)) (h 27) (h 28) (h 4 s.toNatClampNeg, h 5 s.toNatClampNeg) N)) := fun d L xs o g Q T hq => by
    refine sm_99 ?_
    rw [e1]
    exact (mv_76 hN ia.2.2.1).use (sm_99_21 rfl rfl rfl hq)
  generalize spn (tk_kn h p s (-1)) (h 27) (h 28) (h 4 s.toNatClampNeg, h 5 s.toNatClampNeg) N = sp at H1 hk sb
  have H2 := mv_60 (h := wrp h 61 0 1 sp) (b := b) (x := h 6 s.toNatClampNeg) (day := 0) (n := ns) (by omega) ib.2.2.1
  have M1 := mv_172 (h := am_set (wrp h 61 0 1 sp) 64 3 0) (p := p) (s := s) (but := -1) (N := N) hN ia.2.2.2
  have hk2 : spn (tk_ms (am_set (wrp h 61 0 1 sp) 64 3 0) p s (-1)) ((am_set (wrp h 61 0 1 sp) 64 3 0) 85) ((am_set (wrp h 61 0 1 sp) 64 3 0) 87) ((am_set (wrp h 61 0 1 sp) 64 3 0) 69 s.toNatClampNeg, (am_set (wrp h 61 0 1 sp) 64 3 0) 70 s.toNatClampNeg) N = sp := by
    show spn (tk_ms h p s (-1)) (h 85) (h 87) (h 69 s.toNatClampNeg, h 70 s.toNatClampNeg) N = sp
    rw [q0]
    exact hk
  rw [hk2] at M1
  have M2 := fun l => mv_177 (h := am_set (wrp h 61 0 1 sp) 64 3 0) (s := s) (b := b) (x := h 6 s.toNatClampNeg) (day := 0) (l := l) (n := ns) (sp := sp) (by omega) r9 x5 ia.2.2.2 ib.2.2.2 (show h 72 s.toNatClampNeg = Int32.ofNat ns from r4 ▸ ens)
  obtain ⟨h3, hh3⟩ : ∃ h3, h3 = wrp (am_set (wrp h 61 0 1 sp) 64 3 0) 64 35 36 sp := ⟨_, rfl⟩
  have lw := fun w => lw_any (w := w) hns1 (show ns ≤ 100 by omega) y0 y1 b6 b7 r9 x5 y2 y3 y4 y5 (show ¬ (0 : Int32) < 0 by decide) (show ¬ (9999 : Int32) < 0 by decide)
  have B : ∀ f : Nat → Bool, (∀ l, l < 100 → (if sp.2 < sp.1 then (0 : Int32) else if anyF (shl (am_set (wrp h 61 0 1 sp) 64 3 0) b (h 6 s.toNatClampNeg) 0 ((sp.2 + (am_set (wrp h 61 0 1 sp) 64 3 0) 73 s.toNatClampNeg * (Int32.ofNat l / 10)) + (am_set (wrp h 61 0 1 sp) 64 3 0) 68 4)) 0 ns = true then 0 else 1) = if f l = true then 0 else 1) → mv 50 196 [some (.ref 64), some (.int p), some (.int s), some (.int b), none] (wrp h 61 0 1 sp) (some (.int (Int32.ofNat (upF f 0 100) - 1))) (wrp (am_set (wrp h 61 0 1 sp) 64 3 0) 64 35 36 sp) := fun f hf d L xs o g Q T hq => by
    refine sm_196 (am_iff a1 (am_iff n2 (am_iff a3 (am_iff n4 (am_iff a5 (am_iff n6 (?_)))))))
    rw [show (wrp h 61 0 1 sp) 64 28 = Int32.ofNat N from e2]
    refine M1.use (sm_196_46 rfl rfl (lp_196 ia.2.2.2 rfl f (fun l hl => ?_) 100 0 (by omega) hq))
    have := M2 (Int32.ofNat l)
    rw [hf l hl] at this
    rw [show (wrp (am_set (wrp h 61 0 1 sp) 64 3 0) 64 35 36 sp) 71 s.toNatClampNeg = h 6 s.toNatClampNeg from r3.symm]
    exact this
  by_cases em : sp.2 < sp.1
  · have A : mv 50 112 [some (.ref 0), some (.int p), some (.int s), some (.int b), none, none] h (some (.int (-1))) (wrp h 61 0 1 sp) := fun d L xs o g Q T hq => sm_112 (am_iff a1 (am_ift a2 (am_iff a3 (am_ift a4 (am_iff a5 (am_ift a6 (H1.use (sm_112_21 rfl rfl rfl (am_ift em hq)))))))))
    have B' := B (fun _ => true) (fun l hl => by rw [if_pos em, if_pos rfl])
    exact ⟨0, _, _, _, _, .v A, B', hI, rfl, fun _ => rfl, by decide⟩
  have A : mv 50 112 [some (.ref 0), some (.int p), some (.int s), some (.int b), none, none] h (some (.int (Int32.ofNat (dnF (ldF (lwt (h 9 b.toNatClampNeg) (h 10 b.toNatClampNeg) (h 11 b.toNatClampNeg) (h 12 0) (h 6 s.toNatClampNeg) 0 ns) sp.2 (h 8 s.toNatClampNeg) (h 12 1)) 100) - 1))) (wrp h 61 0 1 sp) := fun d L xs o g Q T hq => sm_112 (am_iff a1 (am_ift a2 (am_iff a3 (am_ift a4 (am_iff a5 (am_ift a6 (H1.use (sm_112_21 rfl rfl rfl (am_iff em ⟨ia.2.2.1, by rw [show (wrp h 61 0 1 sp) 7 s.toNatClampNeg = Int32.ofNat ns from ens]; exact H2.use (sm_112_60 rfl rfl rfl rfl (lp_112 (h := wrp h 61 0 1 sp) ia.2.2.1 rfl rfl 100 (by omega) hq))⟩)))))))))
  have B' := B (fun l => ldF (lwt (h 9 b.toNatClampNeg) (h 10 b.toNatClampNeg) (h 11 b.toNatClampNeg) (h 12 0) (h 6 s.toNatClampNeg) 0 ns) sp.2 (h 8 s.toNatClampNeg) (h 12 1) l) (fun l hl => by
    rw [if_neg em]
    show (if anyF (fun i => decide (wat (h 74 b.toNatClampNeg) (h 75 b.toNatClampNeg) (h 76 b.toNatClampNeg) (h 68 3) (h 6 s.toNatClampNeg + Int32.ofNat i) 0 < ((sp.2 + h 73 s.toNatClampNeg * (Int32.ofNat l / 10)) + h 68 4))) 0 ns = true then (0 : Int32) else 1) = _
    rw [← q1, ← q2, ← q3, p3, p4, ← r5, lw]
    rfl)
  refine ⟨0, _, _, _, _, .v A, B', hI, rfl, fun _ => ?_, by decide⟩
  have s1 := sb.1
  have s2 := sb.2
  simp only at s1 s2
  have g0 : ¬ sp.2 < 0 := by grind
  have g1 : ¬ 60 < sp.2 := by grind
  have mono := ld_mono (W := lwt (h 9 b.toNatClampNeg) (h 10 b.toNatClampNeg) (h 11 b.toNatClampNeg) (h 12 0) (h 6 s.toNatClampNeg) 0 ns) g0 g1 r13 r14 b8 b9
  obtain ⟨d1, d2, d3⟩ := dn_spec (n := 100) mono 100 (Nat.le_refl _)
  have ue := up_eq d2 d3 d1 100 0 (by omega) (by omega)
  show _ = Int32.ofNat (upF (ldF _ sp.2 (h 8 s.toNatClampNeg) (h 12 1)) 0 100) - 1
  rw [ue]
