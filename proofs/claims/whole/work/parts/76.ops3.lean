/-! ===== ship, word, lead, person ===== -/
theorem op_ship {h : am_M} (hI : Iv h) (s w : Int32) : opR 44 [some (.ref 0), some (.int s), some (.int w)] 151 [some (.ref 64), some (.int s), some (.int w)] cdN h := by
  have hI' := hI
  obtain ⟨hT, hP, ⟨N, hN, e1, e2, hE, hG, hJ, hS⟩, hII, hR, hK⟩ := hI'
  obtain ⟨p0, p1, p2, p3, p4, p5, p6⟩ := hP.1
  obtain ⟨b0, b1, b2, b3, b4, b5, b6, b7, b8, b9, b10, b11, b12, b13⟩ := hP.2.1
  have b3' : ¬ 5 < h 3 1 := by grind
  by_cases a1 : s < 0
  · exact op_fail hI (fun d L xs o g Q T hq => sm_44 (am_ift a1 (hq))) (fun d L xs o g Q T hq => sm_151 (am_ift a1 (hq)))
  by_cases a2 : s < h 3 0
  rotate_left
  · have n2 : h 68 0 - 1 < s := by rw [p0]; exact rq5n b0 b1 a2
    exact op_fail hI (fun d L xs o g Q T hq => sm_44 (am_iff a1 (am_iff a2 (hq)))) (fun d L xs o g Q T hq => sm_151 (am_iff a1 (am_ift n2 (hq))))
  have n2 : ¬ h 68 0 - 1 < s := by rw [p0]; exact rq5 b0 b1 a2
  have ia := iv_at a1 a2 b1
  have hs := hP.2.2.1 _ ia.1 ia.2.1
  by_cases c0 : w = 0
  · exact ⟨0, h 4 s.toNatClampNeg, h 69 s.toNatClampNeg, h, am_set h 64 3 0, .v fun d L xs o g Q T hq => sm_44 (am_iff a1 (am_ift a2 (am_ift c0 (⟨ia.2.2.1, hq⟩)))), fun d L xs o g Q T hq => sm_151 (am_iff a1 (am_iff n2 (am_ift c0 (⟨ia.2.2.2, hq⟩)))), hI, rfl, fun _ => hs.1.1, by decide⟩
  by_cases c1 : w = 1
  · exact ⟨0, h 5 s.toNatClampNeg, h 70 s.toNatClampNeg, h, am_set h 64 3 0, .v fun d L xs o g Q T hq => sm_44 (am_iff a1 (am_ift a2 (am_iff c0 (am_ift c1 (⟨ia.2.2.1, hq⟩))))), fun d L xs o g Q T hq => sm_151 (am_iff a1 (am_iff n2 (am_iff c0 (am_ift c1 (⟨ia.2.2.2, hq⟩))))), hI, rfl, fun _ => hs.1.2.1, by decide⟩
  by_cases c2 : w = 2
  · exact ⟨0, h 6 s.toNatClampNeg, h 71 s.toNatClampNeg, h, am_set h 64 3 0, .v fun d L xs o g Q T hq => sm_44 (am_iff a1 (am_ift a2 (am_iff c0 (am_iff c1 (am_ift c2 (⟨ia.2.2.1, hq⟩)))))), fun d L xs o g Q T hq => sm_151 (am_iff a1 (am_iff n2 (am_iff c0 (am_iff c1 (am_ift c2 (⟨ia.2.2.2, hq⟩)))))), hI, rfl, fun _ => hs.1.2.2.1, by decide⟩
  by_cases c3 : w = 3
  · exact ⟨0, h 7 s.toNatClampNeg, h 72 s.toNatClampNeg, h, am_set h 64 3 0, .v fun d L xs o g Q T hq => sm_44 (am_iff a1 (am_ift a2 (am_iff c0 (am_iff c1 (am_iff c2 (am_ift c3 (⟨ia.2.2.1, hq⟩))))))), fun d L xs o g Q T hq => sm_151 (am_iff a1 (am_iff n2 (am_iff c0 (am_iff c1 (am_iff c2 (am_ift c3 (⟨ia.2.2.2, hq⟩))))))), hI, rfl, fun _ => hs.1.2.2.2.1, by decide⟩
  by_cases c4 : w = 4
  · exact ⟨0, h 8 s.toNatClampNeg, h 73 s.toNatClampNeg, h, am_set h 64 3 0, .v fun d L xs o g Q T hq => sm_44 (am_iff a1 (am_ift a2 (am_iff c0 (am_iff c1 (am_iff c2 (am_iff c3 (am_ift c4 (⟨ia.2.2.1, hq⟩)))))))), fun d L xs o g Q T hq => sm_151 (am_iff a1 (am_iff n2 (am_iff c0 (am_iff c1 (am_iff c2 (am_iff c3 (am_ift c4 (⟨ia.2.2.2, hq⟩)))))))), hI, rfl, fun _ => hs.1.2.2.2.2, by decide⟩
  by_cases c5 : w = 5
  · exact ⟨0, h 30 s.toNatClampNeg, h 77 s.toNatClampNeg, h, am_set h 64 3 0, .v fun d L xs o g Q T hq => sm_44 (am_iff a1 (am_ift a2 (am_iff c0 (am_iff c1 (am_iff c2 (am_iff c3 (am_iff c4 (am_ift c5 (⟨ia.2.2.1, hq⟩))))))))), fun d L xs o g Q T hq => sm_151 (am_iff a1 (am_iff n2 (am_iff c0 (am_iff c1 (am_iff c2 (am_iff c3 (am_iff c4 (am_ift c5 (⟨ia.2.2.1, hq⟩))))))))), hI, rfl, fun _ => (hG _ ia.1).1.symm, by decide⟩
  have q0 : ((h 69 s.toNatClampNeg, h 70 s.toNatClampNeg) : Int32 × Int32) = (h 4 s.toNatClampNeg, h 5 s.toNatClampNeg) := by rw [hs.1.1, hs.1.2.1]
  have H1 := mv_46 (h := h) (s := s) hN e1 ia.2.2.1
  have k1 := sp_mt (s := s) hE (Nat.le_refl N) (h 4 s.toNatClampNeg, h 5 s.toNatClampNeg)
  have k2 := sp_tr (s := s) b3 hE (Nat.le_refl N) (h 4 s.toNatClampNeg, h 5 s.toNatClampNeg)
  have k3 : spT h s N = spn (tk_mt h s) (h 85) (h 87) (h 4 s.toNatClampNeg, h 5 s.toNatClampNeg) N := k2.trans k1.symm
  generalize spT h s N = sp at H1 k3
  have H2 := mv_153 (h := am_set (wrp h 61 0 1 sp) 64 3 0) (s := s) hN e2 ia.2.2.2
  have hk2 : spn (tk_mt (am_set (wrp h 61 0 1 sp) 64 3 0) s) ((am_set (wrp h 61 0 1 sp) 64 3 0) 85) ((am_set (wrp h 61 0 1 sp) 64 3 0) 87) ((am_set (wrp h 61 0 1 sp) 64 3 0) 69 s.toNatClampNeg, (am_set (wrp h 61 0 1 sp) 64 3 0) 70 s.toNatClampNeg) N = sp := by
    show spn (tk_mt h s) (h 85) (h 87) (h 69 s.toNatClampNeg, h 70 s.toNatClampNeg) N = sp
    rw [q0]
    exact k3.symm
  rw [hk2] at H2
  by_cases c6 : w = 6
  · exact ⟨0, sp.1, sp.1, wrp h 61 0 1 sp, wrp (am_set (wrp h 61 0 1 sp) 64 3 0) 64 35 36 sp, .v fun d L xs o g Q T hq => sm_44 (am_iff a1 (am_ift a2 (am_iff c0 (am_iff c1 (am_iff c2 (am_iff c3 (am_iff c4 (am_iff c5 (am_ift c6 (H1.use (sm_44_117 rfl rfl rfl hq))))))))))), fun d L xs o g Q T hq => sm_151 (am_iff a1 (am_iff n2 (am_iff c0 (am_iff c1 (am_iff c2 (am_iff c3 (am_iff c4 (am_iff c5 (am_ift c6 (H2.use (sm_151_115 rfl (am_ift c6 hq)))))))))))), hI, rfl, fun _ => rfl, by decide⟩
  by_cases c7 : w = 7
  · exact ⟨0, sp.2, sp.2, wrp h 61 0 1 sp, wrp (am_set (wrp h 61 0 1 sp) 64 3 0) 64 35 36 sp, .v fun d L xs o g Q T hq => sm_44 (am_iff a1 (am_ift a2 (am_iff c0 (am_iff c1 (am_iff c2 (am_iff c3 (am_iff c4 (am_iff c5 (am_iff c6 (am_ift c7 (H1.use (sm_44_126 rfl rfl rfl hq)))))))))))), fun d L xs o g Q T hq => sm_151 (am_iff a1 (am_iff n2 (am_iff c0 (am_iff c1 (am_iff c2 (am_iff c3 (am_iff c4 (am_iff c5 (am_iff c6 (am_ift c7 (H2.use (sm_151_115 rfl (am_iff c6 hq))))))))))))), hI, rfl, fun _ => rfl, by decide⟩
  exact op_fail hI (fun d L xs o g Q T hq => sm_44 (am_iff a1 (am_ift a2 (am_iff c0 (am_iff c1 (am_iff c2 (am_iff c3 (am_iff c4 (am_iff c5 (am_iff c6 (am_iff c7 (hq)))))))))))) (fun d L xs o g Q T hq => sm_151 (am_iff a1 (am_iff n2 (am_iff c0 (am_iff c1 (am_iff c2 (am_iff c3 (am_iff c4 (am_iff c5 (am_iff c6 (am_iff c7 (hq))))))))))))
theorem ev_add {np ns fee : Int32} {A B C D E F A' B' C' D' E' F' : Nat → Int32} {N : Nat} {a b c d e f a' b' f' : Int32} (hE : ∀ j, j < N → iv_E np ns fee A B C D E F A' B' C' D' E' F' j)
    (hn : (¬ a < 0 ∧ a < np ∧ ¬ c < 0 ∧ c < ns ∧ ¬ d < 1 ∧ ¬ 60 < d ∧ (e = 0 ∨ e = 1)) ∧ ((b = -1 ∧ b' = -1 ∧ a' = a ∧ f = fee) ∨ (¬ b < 0 ∧ b < np ∧ b' = a ∧ a' = b ∧ f' = f))) :
    ∀ j, j < N + 1 → iv_E np ns fee (upd A N a) (upd B N b) (upd C N c) (upd D N d) (upd E N e) (upd F N f) (upd A' N a') (upd B' N b') (upd C' N c) (upd D' N d) (upd E' N e) (upd F' N f') j := by
  intro j hj
  by_cases h : j = N
  · subst h
    simp only [iv_E, upd, if_true]
    exact ⟨hn.1, ⟨trivial, trivial, trivial⟩, hn.2⟩
  · have := hE j (by omega)
    simp only [iv_E, upd, if_neg h] at this ⊢
    exact this
theorem sp_add {S P D T : Nat → Int32} {s lo hi : Int32} {N : Nat} {b c d e : Int32} : spL (upd S N b) (upd P N c) (upd D N d) (upd T N e) s lo hi (N + 1) = sp_cut (decide (b = -1) && decide (c = s)) d e (spL S P D T s lo hi N) := by
  show sp_cut _ _ _ (spn _ _ _ _ N) = _
  have e1 : spn (fun k => decide (upd S N b k = -1) && decide (upd P N c k = s)) (upd D N d) (upd T N e) (lo, hi) N = spL S P D T s lo hi N := by
    apply spn_congr
    intro k hk
    have : ¬ k = N := by omega
    simp only [upd, if_neg this]
    exact ⟨trivial, trivial, trivial⟩
  rw [e1]
  simp only [upd, if_true]
theorem op_word {h : am_M} (hI : Iv h) (p q s z t v : Int32) (ht : t = 0 ∨ t = 1) : opR 72 [some (.ref 0), some (.int p), some (.int q), some (.int s), some (.int z), some (.int t), some (.int v)] 169 [some (.ref 64), some (.int p), some (.int q), some (.int s), some (.int z), some (.int t), some (.int v)] cdN h := by
  have hI' := hI
  obtain ⟨hT, hP, ⟨N, hN, e1, e2, hE, hG, hJ, hS⟩, hII, hR, hK⟩ := hI'
  obtain ⟨p0, p1, p2, p3, p4, p5, p6⟩ := hP.1
  obtain ⟨b0, b1, b2, b3, b4, b5, b6, b7, b8, b9, b10, b11, b12, b13⟩ := hP.2.1
  have b3' : ¬ 5 < h 3 1 := by grind
  by_cases a1 : p < 0
  · exact op_fail hI (fun d L xs o g Q T hq => sm_72 (am_ift a1 (hq))) (fun d L xs o g Q T hq => sm_169 (am_ift a1 (hq)))
  by_cases a2 : p < h 3 1
  rotate_left
  · have n2 : h 68 1 - 1 < p := by rw [p1]; exact rq5n b2 b3' a2
    exact op_fail hI (fun d L xs o g Q T hq => sm_72 (am_iff a1 (am_iff a2 (hq)))) (fun d L xs o g Q T hq => sm_169 (am_iff a1 (am_ift n2 (hq))))
  have n2 : ¬ h 68 1 - 1 < p := by rw [p1]; exact rq5 b2 b3' a2
  by_cases a3 : q < 0
  · exact op_fail hI (fun d L xs o g Q T hq => sm_72 (am_iff a1 (am_ift a2 (am_ift a3 (hq))))) (fun d L xs o g Q T hq => sm_169 (am_iff a1 (am_iff n2 (am_ift a3 (hq)))))
  by_cases a4 : q < h 3 1
  rotate_left
  · have n4 : h 68 1 - 1 < q := by rw [p1]; exact rq5n b2 b3' a4
    exact op_fail hI (fun d L xs o g Q T hq => sm_72 (am_iff a1 (am_ift a2 (am_iff a3 (am_iff a4 (hq)))))) (fun d L xs o g Q T hq => sm_169 (am_iff a1 (am_iff n2 (am_iff a3 (am_ift n4 (hq))))))
  have n4 : ¬ h 68 1 - 1 < q := by rw [p1]; exact rq5 b2 b3' a4
  by_cases a5 : s < 0
  · exact op_fail hI (fun d L xs o g Q T hq => sm_72 (am_iff a1 (am_ift a2 (am_iff a3 (am_ift a4 (am_ift a5 (hq))))))) (fun d L xs o g Q T hq => sm_169 (am_iff a1 (am_iff n2 (am_iff a3 (am_iff n4 (am_ift a5 (hq)))))))
  by_cases a6 : s < h 3 0
  rotate_left
  · have n6 : h 68 0 - 1 < s := by rw [p0]; exact rq5n b0 b1 a6
    exact op_fail hI (fun d L xs o g Q T hq => sm_72 (am_iff a1 (am_ift a2 (am_iff a3 (am_ift a4 (am_iff a5 (am_iff a6 (hq)))))))) (fun d L xs o g Q T hq => sm_169 (am_iff a1 (am_iff n2 (am_iff a3 (am_iff n4 (am_iff a5 (am_ift n6 (hq))))))))
  have n6 : ¬ h 68 0 - 1 < s := by rw [p0]; exact rq5 b0 b1 a6
  have hf : Iv (am_set (am_set (am_set h 33 1 (h 33 1 + 1)) 64 3 0) 78 1 (h 78 1 + 1)) := ⟨hT, hP, ⟨N, hN, e1, e2, hE, hG, ⟨hJ.1, by show h 78 1 + 1 = h 33 1 + 1; rw [hJ.2.1], hJ.2.2⟩, hS⟩, hII, hR, hK⟩
  have ref : mv 50 72 [some (.ref 0), some (.int p), some (.int q), some (.int s), some (.int z), some (.int t), some (.int v)] h (some (.int (-1))) (am_set h 33 1 (h 33 1 + 1)) → mv 50 169 [some (.ref 64), some (.int p), some (.int q), some (.int s), some (.int z), some (.int t), some (.int v)] (am_set h 33 1 (h 33 1 + 1)) (some (.int (-1))) (am_set (am_set (am_set h 33 1 (h 33 1 + 1)) 64 3 0) 78 1 (h 78 1 + 1)) → opR 72 [some (.ref 0), some (.int p), some (.int q), some (.int s), some (.int z), some (.int t), some (.int v)] 169 [some (.ref 64), some (.int p), some (.int q), some (.int s), some (.int z), some (.int t), some (.int v)] cdN h := fun A B => ⟨0, -1, -1, _, _, .v A, B, hf, rfl, fun _ => rfl, by decide⟩
  by_cases f : h 23 0 < 80
  rotate_left
  · have f' : h 64 28 = 80 := by
      rw [e2]
      have : N = 80 := by
        rw [e1] at f
        have : ¬ Int32.ofNat N < Int32.ofNat 80 := f
        rw [nz_nlt (by omega) (by decide)] at this
        omega
      rw [this]
      rfl
    exact ref (fun d L xs o g Q T hq => sm_72 (am_iff a1 (am_ift a2 (am_iff a3 (am_ift a4 (am_iff a5 (am_ift a6 (am_iff f (hq))))))))) (fun d L xs o g Q T hq => sm_169 (am_iff a1 (am_iff n2 (am_iff a3 (am_iff n4 (am_iff a5 (am_iff n6 (am_ift f' (hq)))))))))
  have hN2 : N < 80 := by
    rw [e1] at f
    have : Int32.ofNat N < Int32.ofNat 80 := f
    rw [nz_nlt (by omega) (by decide)] at this
    exact this
  have f' : ¬ h 64 28 = 80 := by
    rw [e2]
    show ¬ Int32.ofNat N = Int32.ofNat 80
    rw [nz_inj (by omega) (by decide)]
    omega
  by_cases y : p = q
  · by_cases c1 : z < 1
    · exact ref (fun d L xs o g Q T hq => sm_72 (am_iff a1 (am_ift a2 (am_iff a3 (am_ift a4 (am_iff a5 (am_ift a6 (am_ift f (am_ift c1 (hq)))))))))) (fun d L xs o g Q T hq => sm_169 (am_iff a1 (am_iff n2 (am_iff a3 (am_iff n4 (am_iff a5 (am_iff n6 (am_iff f' (am_ift y (hq))))))))))
    by_cases c2 : 60 < z
    · exact ref (fun d L xs o g Q T hq => sm_72 (am_iff a1 (am_ift a2 (am_iff a3 (am_ift a4 (am_iff a5 (am_ift a6 (am_ift f (am_iff c1 (am_ift c2 (hq))))))))))) (fun d L xs o g Q T hq => sm_169 (am_iff a1 (am_iff n2 (am_iff a3 (am_iff n4 (am_iff a5 (am_iff n6 (am_iff f' (am_ift y (hq))))))))))
    exact ref (fun d L xs o g Q T hq => sm_72 (am_iff a1 (am_ift a2 (am_iff a3 (am_ift a4 (am_iff a5 (am_ift a6 (am_ift f (am_iff c1 (am_iff c2 (am_ift y (hq)))))))))))) (fun d L xs o g Q T hq => sm_169 (am_iff a1 (am_iff n2 (am_iff a3 (am_iff n4 (am_iff a5 (am_iff n6 (am_iff f' (am_ift y (hq))))))))))
  by_cases c1 : z < 1
  · exact ref (fun d L xs o g Q T hq => sm_72 (am_iff a1 (am_ift a2 (am_iff a3 (am_ift a4 (am_iff a5 (am_ift a6 (am_ift f (am_ift c1 (hq)))))))))) (fun d L xs o g Q T hq => sm_169 (am_iff a1 (am_iff n2 (am_iff a3 (am_iff n4 (am_iff a5 (am_iff n6 (am_iff f' (am_iff y (am_ift c1 (hq)))))))))))
  by_cases c2 : 60 < z
  · exact ref (fun d L xs o g Q T hq => sm_72 (am_iff a1 (am_ift a2 (am_iff a3 (am_ift a4 (am_iff a5 (am_ift a6 (am_ift f (am_iff c1 (am_ift c2 (hq))))))))))) (fun d L xs o g Q T hq => sm_169 (am_iff a1 (am_iff n2 (am_iff a3 (am_iff n4 (am_iff a5 (am_iff n6 (am_iff f' (am_iff y (am_iff c1 (am_ift c2 (hq))))))))))))
  by_cases c3 : v < 0
  · exact ref (fun d L xs o g Q T hq => sm_72 (am_iff a1 (am_ift a2 (am_iff a3 (am_ift a4 (am_iff a5 (am_ift a6 (am_ift f (am_iff c1 (am_iff c2 (am_iff y (am_ift c3 (hq))))))))))))) (fun d L xs o g Q T hq => sm_169 (am_iff a1 (am_iff n2 (am_iff a3 (am_iff n4 (am_iff a5 (am_iff n6 (am_iff f' (am_iff y (am_iff c1 (am_iff c2 (am_ift c3 (hq)))))))))))))
  by_cases c4 : 999 < v
  · exact ref (fun d L xs o g Q T hq => sm_72 (am_iff a1 (am_ift a2 (am_iff a3 (am_ift a4 (am_iff a5 (am_ift a6 (am_ift f (am_iff c1 (am_iff c2 (am_iff y (am_iff c3 (am_ift c4 (hq)))))))))))))) (fun d L xs o g Q T hq => sm_169 (am_iff a1 (am_iff n2 (am_iff a3 (am_iff n4 (am_iff a5 (am_iff n6 (am_iff f' (am_iff y (am_iff c1 (am_iff c2 (am_iff c3 (am_ift c4 (hq))))))))))))))
  have k1 : (h 23 0).toNatClampNeg = N := by rw [e1]; exact nz_c N (by omega)
  have k2 : (h 64 28).toNatClampNeg = N := by rw [e2]; exact nz_c N (by omega)
  have i1 : am_ix (h 23 0) 80 := by rw [e1]; exact ix_n hN2 (by decide)
  have i2 : am_ix (h 64 28) 80 := by rw [e2]; exact ix_n hN2 (by decide)
  have nb := nb_bool ht
  have A : mv 50 72 [some (.ref 0), some (.int p), some (.int q), some (.int s), some (.int z), some (.int t), some (.int v)] h (some (.int (h 23 0 + 1))) (am_set (am_set (am_set (am_set (am_set (am_set (am_set h 24 N q) 25 N p) 26 N s) 27 N z) 28 N t) 29 N v) 23 0 (h 23 0 + 1)) := fun d L xs o g Q T hq => sm_72 (am_iff a1 (am_ift a2 (am_iff a3 (am_ift a4 (am_iff a5 (am_ift a6 (am_ift f (am_iff c1 (am_iff c2 (am_iff y (am_iff c3 (am_iff c4 (by rw [k1, nb]; exact ⟨i1, hq⟩)))))))))))))
  have B : mv 50 169 [some (.ref 64), some (.int p), some (.int q), some (.int s), some (.int z), some (.int t), some (.int v)] (am_set (am_set (am_set (am_set (am_set (am_set (am_set h 24 N q) 25 N p) 26 N s) 27 N z) 28 N t) 29 N v) 23 0 (h 23 0 + 1)) (some (.int (h 64 28 + 1))) (am_set (am_set (am_set (am_set (am_set (am_set (am_set (am_set (am_set (am_set (am_set (am_set (am_set (am_set (am_set h 24 N q) 25 N p) 26 N s) 27 N z) 28 N t) 29 N v) 23 0 (h 23 0 + 1)) 64 3 0) 82 N p) 83 N q) 84 N s) 85 N z) 87 N t) 86 N v) 64 28 (h 64 28 + 1)) := fun d L xs o g Q T hq => sm_169 (am_iff a1 (am_iff n2 (am_iff a3 (am_iff n4 (am_iff a5 (am_iff n6 (am_iff f' (am_iff y (am_iff c1 (am_iff c2 (am_iff c3 (am_iff c4 (⟨i2, by rw [nb]; show Q _ (am_set (am_set (am_set (am_set (am_set (am_set (am_set (am_set (am_set (am_set (am_set (am_set (am_set (am_set (am_set h 24 N q) 25 N p) 26 N s) 27 N z) 28 N t) 29 N v) 23 0 (h 23 0 + 1)) 64 3 0) 82 (h 64 28).toNatClampNeg p) 83 (h 64 28).toNatClampNeg q) 84 (h 64 28).toNatClampNeg s) 85 (h 64 28).toNatClampNeg z) 87 (h 64 28).toNatClampNeg t) 86 (h 64 28).toNatClampNeg v) 64 28 (h 64 28 + 1)) o g; rw [k2]; exact hq⟩)))))))))))))
  refine ⟨0, h 23 0 + 1, h 64 28 + 1, _, _, .v A, B, ⟨hT, hP, ⟨N + 1, by omega, ?_, ?_, ev_add hE ⟨⟨a3, a4, a5, a6, c1, c2, ht⟩, .inr ⟨a1, a2, rfl, rfl, rfl⟩⟩, hG, hJ, fun s' hs hs' => ?_⟩, hII, hR, hK⟩, rfl, fun _ => by rw [e1, e2], by decide⟩
  · show h 23 0 + 1 = _
    rw [e1, nz_succ]
  · show h 64 28 + 1 = _
    rw [e2, nz_succ]
  · have := hS s' hs hs'
    show ¬ (spL (upd (h 25) N p) (upd (h 26) N s) (upd (h 27) N z) (upd (h 28) N t) (Int32.ofNat s') (h 4 s') (h 5 s') (N + 1)).2 < (spL (upd (h 25) N p) (upd (h 26) N s) (upd (h 27) N z) (upd (h 28) N t) (Int32.ofNat s') (h 4 s') (h 5 s') (N + 1)).1
    rw [sp_add]
    have np : ¬ p = -1 := by grind
    simp only [np, decide_false, Bool.false_and, sp_cut]
    exact this
