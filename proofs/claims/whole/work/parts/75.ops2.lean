/-! ===== spans, persons ===== -/
theorem sp_kn {h : am_M} {N M : Nat} {p s but : Int32} (hE : ∀ j, j < N → iv_E (h 3 1) (h 3 0) (h 12 3) (h 24) (h 25) (h 26) (h 27) (h 28) (h 29) (h 82) (h 83) (h 84) (h 85) (h 87) (h 86) j) (hM : M ≤ N) (s0 : Int32 × Int32) : spn (tk_ms h p s but) (h 85) (h 87) s0 M = spn (tk_kn h p s but) (h 27) (h 28) s0 M := by
  apply spn_congr
  intro k hk
  obtain ⟨⟨u1, u2, u3, u4, u5, u6, u7⟩, ⟨c1, c2, c3⟩, hd⟩ := hE k (by omega)
  refine ⟨?_, c2, c3⟩
  unfold tk_ms tk_kn
  rw [c1]
  rcases hd with ⟨d1, d2, d3, d4⟩ | ⟨d1, d2, d3, d4, d5⟩
  · rw [if_pos d2, d3]
    by_cases e1 : h 24 k = p <;> by_cases e2 : h 26 k = s <;> by_cases e3 : Int32.ofNat k = but <;> simp [e1, e2, e3]
  · have : ¬ h 83 k = -1 := by rw [d3]; grind
    rw [if_neg this, d3]
    by_cases e1 : h 24 k = p <;> by_cases e2 : h 26 k = s <;> by_cases e3 : Int32.ofNat k = but <;> simp [e1, e2, e3]
theorem sp_tr {h : am_M} {N M : Nat} {s : Int32} (hn : ¬ 4 < h 3 1) (hE : ∀ j, j < N → iv_E (h 3 1) (h 3 0) (h 12 3) (h 24) (h 25) (h 26) (h 27) (h 28) (h 29) (h 82) (h 83) (h 84) (h 85) (h 87) (h 86) j) (hM : M ≤ N) (s0 : Int32 × Int32) : spn (tk_wo h s 15) (h 27) (h 28) s0 M = spL (h 25) (h 26) (h 27) (h 28) s s0.1 s0.2 M := by
  apply spn_congr
  intro k hk
  obtain ⟨⟨u1, u2, u3, u4, u5, u6, u7⟩, ⟨c1, c2, c3⟩, hd⟩ := hE k (by omega)
  refine ⟨?_, rfl, rfl⟩
  unfold tk_wo
  rcases hd with ⟨d1, d2, d3, d4⟩ | ⟨d1, d2, d3, d4, d5⟩
  · simp [d1]
  · have e : h 25 k = 0 ∨ h 25 k = 1 ∨ h 25 k = 2 ∨ h 25 k = 3 := by grind
    have ne : ¬ (15 : Int32) &&& (1 <<< (h 25 k &&& 31)) = 0 := by
      rcases e with e | e | e | e <;> rw [e] <;> decide
    simp [ne]
theorem sp_mt {h : am_M} {N M : Nat} {s : Int32} (hE : ∀ j, j < N → iv_E (h 3 1) (h 3 0) (h 12 3) (h 24) (h 25) (h 26) (h 27) (h 28) (h 29) (h 82) (h 83) (h 84) (h 85) (h 87) (h 86) j) (hM : M ≤ N) (s0 : Int32 × Int32) : spn (tk_mt h s) (h 85) (h 87) s0 M = spL (h 25) (h 26) (h 27) (h 28) s s0.1 s0.2 M := by
  apply spn_congr
  intro k hk
  obtain ⟨⟨u1, u2, u3, u4, u5, u6, u7⟩, ⟨c1, c2, c3⟩, hd⟩ := hE k (by omega)
  refine ⟨?_, c2, c3⟩
  unfold tk_mt
  rw [c1]
  rcases hd with ⟨d1, d2, d3, d4⟩ | ⟨d1, d2, d3, d4, d5⟩
  · simp [d1, d2]
  · have e1 : ¬ h 83 k = -1 := by rw [d3]; grind
    have e2 : ¬ h 25 k = -1 := by grind
    simp [e1, e2]
theorem nat_of {x : Int32} {N : Nat} (hN : N ≤ 80) (h0 : ¬ x < 0) (h1 : ¬ Int32.ofNat N < x) : ∃ M, M ≤ N ∧ x = Int32.ofNat M := by
  have e : 0 ≤ x.toInt := by rw [nz_lt] at h0; have : (0 : Int32).toInt = 0 := rfl; omega
  refine ⟨x.toNatClampNeg, ?_, nz_of e⟩
  rw [nz_lt, nz_n N (by omega)] at h1
  rw [nz_cn]
  omega
theorem op_span {h : am_M} (hI : Iv h) (p s t w : Int32) : opR 74 [some (.ref 0), some (.int p), some (.int s), some (.int t), some (.int w)] 171 [some (.ref 64), some (.int p), some (.int s), some (.int t), some (.int w), none] cdN h := by
  have hI' := hI
  obtain ⟨hT, hP, ⟨N, hN, e1, e2, hE, hG, hJ, hS⟩, hII, hR, hK⟩ := hI'
  have p0 := hP.1.1
  have p1 := hP.1.2.1
  obtain ⟨b0, b1, b2, b3, _⟩ := hP.2.1
  have b3' : ¬ 5 < h 3 1 := by grind
  by_cases a1 : p < 0
  · exact op_fail hI (fun d L xs o g Q T hq => sm_74 (am_ift a1 hq)) (fun d L xs o g Q T hq => sm_171 (am_ift a1 hq))
  by_cases a2 : p < h 3 1
  rotate_left
  · have n2 : h 68 1 - 1 < p := by rw [p1]; exact rq5n b2 b3' a2
    exact op_fail hI (fun d L xs o g Q T hq => sm_74 (am_iff a1 (am_iff a2 hq))) (fun d L xs o g Q T hq => sm_171 (am_iff a1 (am_ift n2 hq)))
  have n2 : ¬ h 68 1 - 1 < p := by rw [p1]; exact rq5 b2 b3' a2
  by_cases a3 : s < 0
  · exact op_fail hI (fun d L xs o g Q T hq => sm_74 (am_iff a1 (am_ift a2 (am_ift a3 hq)))) (fun d L xs o g Q T hq => sm_171 (am_iff a1 (am_iff n2 (am_ift a3 hq))))
  by_cases a4 : s < h 3 0
  rotate_left
  · have n4 : h 68 0 - 1 < s := by rw [p0]; exact rq5n b0 b1 a4
    exact op_fail hI (fun d L xs o g Q T hq => sm_74 (am_iff a1 (am_ift a2 (am_iff a3 (am_iff a4 hq))))) (fun d L xs o g Q T hq => sm_171 (am_iff a1 (am_iff n2 (am_iff a3 (am_ift n4 hq)))))
  have n4 : ¬ h 68 0 - 1 < s := by rw [p0]; exact rq5 b0 b1 a4
  have ia := iv_at a3 a4 b1
  by_cases a5 : w < 0
  · exact op_fail hI (fun d L xs o g Q T hq => sm_74 (am_iff a1 (am_ift a2 (am_iff a3 (am_ift a4 (am_ift a5 hq)))))) (fun d L xs o g Q T hq => sm_171 (am_iff a1 (am_iff n2 (am_iff a3 (am_iff n4 (am_ift a5 hq))))))
  by_cases a6 : 2 < w
  · exact op_fail hI (fun d L xs o g Q T hq => sm_74 (am_iff a1 (am_ift a2 (am_iff a3 (am_ift a4 (am_iff a5 (am_ift a6 hq))))))) (fun d L xs o g Q T hq => sm_171 (am_iff a1 (am_iff n2 (am_iff a3 (am_iff n4 (am_iff a5 (am_ift a6 hq)))))))
  by_cases a7 : t < 0
  · exact op_fail2 hI (fun d L xs o g Q T hq => sm_74 (am_iff a1 (am_ift a2 (am_iff a3 (am_ift a4 (am_iff a5 (am_iff a6 (am_ift a7 hq)))))))) (fun d L xs o g Q T hq => sm_171 (am_iff a1 (am_iff n2 (am_iff a3 (am_iff n4 (am_iff a5 (am_iff a6 (am_ift a7 hq))))))))
  by_cases a8 : h 23 0 < t
  · have a8' : h 64 28 < t := by rw [e2, ← e1]; exact a8
    exact op_fail2 hI (fun d L xs o g Q T hq => sm_74 (am_iff a1 (am_ift a2 (am_iff a3 (am_ift a4 (am_iff a5 (am_iff a6 (am_iff a7 (am_ift a8 hq))))))))) (fun d L xs o g Q T hq => sm_171 (am_iff a1 (am_iff n2 (am_iff a3 (am_iff n4 (am_iff a5 (am_iff a6 (am_iff a7 (am_ift a8' hq)))))))))
  have a8' : ¬ h 64 28 < t := by rw [e2, ← e1]; exact a8
  obtain ⟨M, hM, rfl⟩ := nat_of hN a7 (e1 ▸ a8)
  have hs := hP.2.2.1 _ ia.1 ia.2.1
  have q0 : ((h 69 s.toNatClampNeg, h 70 s.toNatClampNeg) : Int32 × Int32) = (h 4 s.toNatClampNeg, h 5 s.toNatClampNeg) := by rw [hs.1.1, hs.1.2.1]
  have hk := sp_kn (p := p) (s := s) (but := -1) hE hM (h 69 s.toNatClampNeg, h 70 s.toNatClampNeg)
  rw [q0] at hk
  have H1 := mv_76 (h := h) (p := p) (s := s) (but := -1) (N := M) (by omega) ia.2.2.1
  generalize hsp : spn (tk_kn h p s (-1)) (h 27) (h 28) (h 4 s.toNatClampNeg, h 5 s.toNatClampNeg) M = sp at H1 hk
  have H2 := mv_172 (h := am_set (wrp h 61 0 1 sp) 64 3 0) (p := p) (s := s) (but := -1) (N := M) (by omega) ia.2.2.2
  have hk2 : spn (tk_ms (am_set (wrp h 61 0 1 sp) 64 3 0) p s (-1)) ((am_set (wrp h 61 0 1 sp) 64 3 0) 85) ((am_set (wrp h 61 0 1 sp) 64 3 0) 87) ((am_set (wrp h 61 0 1 sp) 64 3 0) 69 s.toNatClampNeg, (am_set (wrp h 61 0 1 sp) 64 3 0) 70 s.toNatClampNeg) M = sp := by
    show spn (tk_ms h p s (-1)) (h 85) (h 87) (h 69 s.toNatClampNeg, h 70 s.toNatClampNeg) M = sp
    rw [q0]
    exact hk
  rw [hk2] at H2
  have C : ∀ v, (∀ (Q : Option Value → am_M → am_L → Nat → Prop) (o : am_L) (g : Nat), Q (some (.int v)) (wrp h 61 0 1 sp) o g → if w = 2 then Q (some (.int (fn_77 (wrp h 61 0 1 sp)))) (wrp h 61 0 1 sp) o g else (if sp.2 < sp.1 then Q (some (.int (-1))) (wrp h 61 0 1 sp) o g else (if w = 0 then Q (some (.int sp.1)) (wrp h 61 0 1 sp) o g else Q (some (.int sp.2)) (wrp h 61 0 1 sp) o g))) → mv 50 74 [some (.ref 0), some (.int p), some (.int s), some (.int (Int32.ofNat M)), some (.int w)] h (some (.int v)) (wrp h 61 0 1 sp) := fun v hv d L xs o g Q T hq =>
    sm_74 (am_iff a1 (am_ift a2 (am_iff a3 (am_ift a4 (am_iff a5 (am_iff a6 (am_iff a7 (am_iff a8 (H1.use (sm_74_37 rfl rfl rfl (hv Q o g hq))))))))))) 
  have D : ∀ v, (∀ (Q : Option Value → am_M → am_L → Nat → Prop) (o : am_L) (g : Nat), Q (some (.int v)) (wrp (am_set (wrp h 61 0 1 sp) 64 3 0) 64 35 36 sp) o g → if sp.2 < sp.1 then (if w = 2 then Q (some (.int 0)) (wrp (am_set (wrp h 61 0 1 sp) 64 3 0) 64 35 36 sp) o g else Q (some (.int (-1))) (wrp (am_set (wrp h 61 0 1 sp) 64 3 0) 64 35 36 sp) o g) else (if w = 2 then Q (some (.int (sp.2 - sp.1 + 1))) (wrp (am_set (wrp h 61 0 1 sp) 64 3 0) 64 35 36 sp) o g else (if w = 0 then Q (some (.int sp.1)) (wrp (am_set (wrp h 61 0 1 sp) 64 3 0) 64 35 36 sp) o g else Q (some (.int sp.2)) (wrp (am_set (wrp h 61 0 1 sp) 64 3 0) 64 35 36 sp) o g))) → mv 50 171 [some (.ref 64), some (.int p), some (.int s), some (.int (Int32.ofNat M)), some (.int w), none] (wrp h 61 0 1 sp) (some (.int v)) (wrp (am_set (wrp h 61 0 1 sp) 64 3 0) 64 35 36 sp) := fun v hv d L xs o g Q T hq =>
    sm_171 (am_iff a1 (am_iff n2 (am_iff a3 (am_iff n4 (am_iff a5 (am_iff a6 (am_iff a7 (am_iff a8' (H2.use (sm_171_63 rfl rfl rfl rfl (hv Q o g hq)))))))))))
  have hf77 : fn_77 (wrp h 61 0 1 sp) = if sp.2 < sp.1 then 0 else sp.2 - sp.1 + 1 := rfl
  have fin : ∀ v, mv 50 74 [some (.ref 0), some (.int p), some (.int s), some (.int (Int32.ofNat M)), some (.int w)] h (some (.int v)) (wrp h 61 0 1 sp) → mv 50 171 [some (.ref 64), some (.int p), some (.int s), some (.int (Int32.ofNat M)), some (.int w), none] (wrp h 61 0 1 sp) (some (.int v)) (wrp (am_set (wrp h 61 0 1 sp) 64 3 0) 64 35 36 sp) → opR 74 [some (.ref 0), some (.int p), some (.int s), some (.int (Int32.ofNat M)), some (.int w)] 171 [some (.ref 64), some (.int p), some (.int s), some (.int (Int32.ofNat M)), some (.int w), none] cdN h := fun v A B => ⟨0, v, v, _, _, .v A, B, hI, rfl, fun _ => rfl, by decide⟩
  by_cases w2 : w = 2
  · by_cases em : sp.2 < sp.1
    · exact fin 0 (C 0 fun Q o g hq => am_ift w2 (by rw [hf77, if_pos em]; exact hq)) (D 0 fun Q o g hq => am_ift em (am_ift w2 hq))
    · exact fin (sp.2 - sp.1 + 1) (C _ fun Q o g hq => am_ift w2 (by rw [hf77, if_neg em]; exact hq)) (D _ fun Q o g hq => am_iff em (am_ift w2 hq))
  · by_cases em : sp.2 < sp.1
    · exact fin (-1) (C _ fun Q o g hq => am_iff w2 (am_ift em hq)) (D _ fun Q o g hq => am_ift em (am_iff w2 hq))
    · by_cases w0 : w = 0
      · exact fin sp.1 (C _ fun Q o g hq => am_iff w2 (am_iff em (am_ift w0 hq))) (D _ fun Q o g hq => am_iff em (am_iff w2 (am_ift w0 hq)))
      · exact fin sp.2 (C _ fun Q o g hq => am_iff w2 (am_iff em (am_iff w0 hq))) (D _ fun Q o g hq => am_iff em (am_iff w2 (am_iff w0 hq)))
