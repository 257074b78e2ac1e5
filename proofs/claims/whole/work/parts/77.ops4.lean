/-! ===== lead, person ===== -/
def anyF (f : Nat → Bool) : Nat → Nat → Bool
  | _, 0 => false
  | k, m + 1 => f k || anyF f (k + 1) m
theorem anyF_congr {f f' : Nat → Bool} : ∀ m k, (∀ j, k ≤ j → j < k + m → f j = f' j) → anyF f k m = anyF f' k m
  | 0, _, _ => rfl
  | m + 1, k, h => by
    simp only [anyF]
    rw [h k (by omega) (by omega), anyF_congr m (k + 1) (fun j h1 h2 => h j (by omega) (by omega))]
def hl_c (h : am_M) (p s : Int32) (k : Nat) : Bool := decide (h 25 k = -1) && (decide (h 24 k = p) && decide (h 26 k = s))
def hl_m (h : am_M) (p s : Int32) (k : Nat) : Bool := decide (h 83 k = -1) && (decide (h 82 k = p) && decide (h 84 k = s))
section
variable {L : Nat} {xs : Nat → Int32} {d : Nat} {h : am_M} {o : am_L} {g : Nat} {Q : Option Value → am_M → am_L → Nat → Prop} {T : Nat → am_M → am_L → Nat → Prop}
theorem lp_68 {p s : Int32} {N : Nat} (hN : N ≤ 80) (hE : h 23 0 = Int32.ofNat N) : ∀ (m k : Nat), k + m = N → Q (some (.int (if anyF (hl_c h p s) k m = true then 1 else 0))) h o g → am_X L xs (d + 1) 68 2 [some (.ref 23), some (.int p), some (.int s), some (.int (Int32.ofNat k))] [] am_C0 h o g Q T := by
  intro m
  induction m with
  | zero =>
    intro k hk hq
    refine sm_68_2 ?_
    rw [hE, if_neg (by rw [nz_nlt (by omega) (by omega)]; omega)]
    exact hq
  | succ m ih =>
    intro k hk hq
    refine sm_68_2 ?_
    rw [hE, if_pos (by rw [nz_nlt (by omega) (by omega)]; omega)]
    refine ⟨ix_n (by omega) (by decide), ?_⟩
    rw [nz_c k (by omega), nz_succ k]
    have IH := ih (k + 1) (by omega)
    simp only [anyF, hl_c] at hq
    by_cases h1 : h 25 k = -1
    · by_cases h2 : h 24 k = p
      · by_cases h3 : h 26 k = s
        · rw [if_pos h1, if_pos h2, if_pos h3]
          simpa [h1, h2, h3] using hq
        · rw [if_pos h1, if_pos h2, if_neg h3]
          exact IH (by simpa [h1, h2, h3] using hq)
      · rw [if_pos h1, if_neg h2]
        exact IH (by simpa [h1, h2] using hq)
    · rw [if_neg h1]
      exact IH (by simpa [h1] using hq)
theorem mv_68 {p s : Int32} {N : Nat} (hN : N ≤ 80) (hE : h 23 0 = Int32.ofNat N) : mv 1 68 [some (.ref 23), some (.int p), some (.int s), none] h (some (.int (if anyF (hl_c h p s) 0 N = true then 1 else 0))) h := fun d L xs o g Q T hq => sm_68 (lp_68 hN hE N 0 (by omega) hq)
theorem lp_166 {p s : Int32} {N : Nat} (hN : N ≤ 80) (hE : h 64 28 = Int32.ofNat N) : ∀ (m k : Nat), k + m = N → Q (some (.int (if anyF (hl_m h p s) k m = true then 1 else 0))) h o g → am_X L xs d 166 2 [some (.ref 64), some (.int p), some (.int s), some (.int (Int32.ofNat k))] [] am_C0 h o g Q T := by
  intro m
  induction m with
  | zero =>
    intro k hk hq
    refine sm_166_2 ?_
    rw [hE, if_neg (by rw [nz_nlt (by omega) (by omega)]; omega)]
    exact hq
  | succ m ih =>
    intro k hk hq
    refine sm_166_2 ?_
    rw [hE, if_pos (by rw [nz_nlt (by omega) (by omega)]; omega)]
    refine ⟨ix_n (by omega) (by decide), ?_⟩
    rw [nz_c k (by omega), nz_succ k]
    have IH := ih (k + 1) (by omega)
    simp only [anyF, hl_m] at hq
    by_cases h1 : h 83 k = -1
    · by_cases h2 : h 82 k = p
      · by_cases h3 : h 84 k = s
        · rw [if_pos h1, if_pos h2, if_pos h3]
          simpa [h1, h2, h3] using hq
        · rw [if_pos h1, if_pos h2, if_neg h3]
          exact IH (by simpa [h1, h2, h3] using hq)
      · rw [if_pos h1, if_neg h2]
        exact IH (by simpa [h1, h2] using hq)
    · rw [if_neg h1]
      exact IH (by simpa [h1] using hq)
theorem mv_166 {p s : Int32} {N : Nat} (hN : N ≤ 80) (hE : h 64 28 = Int32.ofNat N) : mv 1 166 [some (.ref 64), some (.int p), some (.int s), none] h (some (.int (if anyF (hl_m h p s) 0 N = true then 1 else 0))) h := fun d L xs o g Q T hq => sm_166 (lp_166 hN hE N 0 (by omega) hq)
theorem mv_166t {p s : Int32} {N : Nat} (hN : N ≤ 80) (hE : h 64 28 = Int32.ofNat N) (hb : anyF (hl_m h p s) 0 N = true) : mv 1 166 [some (.ref 64), some (.int p), some (.int s), none] h (some (.int 1)) h := by
  have := mv_166 (p := p) (s := s) hN hE
  rw [if_pos hb] at this
  exact this
theorem mv_166f {p s : Int32} {N : Nat} (hN : N ≤ 80) (hE : h 64 28 = Int32.ofNat N) (hb : ¬ anyF (hl_m h p s) 0 N = true) : mv 1 166 [some (.ref 64), some (.int p), some (.int s), none] h (some (.int 0)) h := by
  have := mv_166 (p := p) (s := s) hN hE
  rw [if_neg hb] at this
  exact this
theorem ml_ref {p s z t : Int32} {sp : Int32 × Int32} (em : (sp_cut true z t sp).2 < (sp_cut true z t sp).1) (hq : Q (some (.int (-1))) (am_set (wrp h 64 35 36 (sp_cut true z t sp)) 78 1 (h 78 1 + 1)) o g) : am_X L xs (d + 1) 165 65 [some (.ref 64), some (.int p), some (.int s), some (.int z), some (.int t)] [] am_C0 (wrp h 64 35 36 sp) o g Q T := by
  refine sm_165_65 ?_
  rw [wrp_gi h 64 _ (show (35 : Nat) ≠ 36 by decide), wrp_gj, wrp_i h 64 _ _ (show (35 : Nat) ≠ 36 by decide), wrp_j, wrp_c h 35 36 _ (show (78 : Nat) ≠ 64 by decide)]
  by_cases ht : t = 0
  · simp only [sp_cut, if_true, if_pos ht] at hq em
    rw [if_pos ht, if_pos em]
    exact hq
  · simp only [sp_cut, if_true, if_neg ht] at hq em
    rw [if_neg ht, if_pos em]
    exact hq
theorem ml_add {p s z t : Int32} {N : Nat} {sp : Int32 × Int32} (hN : N < 80) (hE : h 64 28 = Int32.ofNat N) (ht : t = 0 ∨ t = 1) (em : ¬ (sp_cut true z t sp).2 < (sp_cut true z t sp).1) (hq : Q (some (.int (h 64 28 + 1))) (am_set (am_set (am_set (am_set (am_set (am_set (am_set (wrp h 64 35 36 (sp_cut true z t sp)) 82 N p) 83 N (-1)) 84 N s) 85 N z) 87 N t) 86 N 0) 64 28 (h 64 28 + 1)) o g) : am_X L xs (d + 1) 165 65 [some (.ref 64), some (.int p), some (.int s), some (.int z), some (.int t)] [] am_C0 (wrp h 64 35 36 sp) o g Q T := by
  refine sm_165_65 ?_
  have k2 : (h 64 28).toNatClampNeg = N := by rw [hE]; exact nz_c N (by omega)
  have i2 : am_ix (h 64 28) 80 := by rw [hE]; exact ix_n hN (by decide)
  rw [wrp_gi h 64 _ (show (35 : Nat) ≠ 36 by decide), wrp_gj, wrp_i h 64 _ _ (show (35 : Nat) ≠ 36 by decide), wrp_j, wrp_s h 64 _ (show (28 : Nat) ≠ 35 by decide) (show (28 : Nat) ≠ 36 by decide), k2, nb_bool ht]
  by_cases h0 : t = 0
  · simp only [sp_cut, if_true, if_pos h0] at hq em
    rw [if_pos h0, if_neg em]
    exact ⟨i2, hq⟩
  · simp only [sp_cut, if_true, if_neg h0] at hq em
    rw [if_neg h0, if_neg em]
    exact ⟨i2, hq⟩
theorem hl_eq {N : Nat} {p s : Int32} (hE : ∀ j, j < N → iv_E (h 3 1) (h 3 0) (h 12 3) (h 24) (h 25) (h 26) (h 27) (h 28) (h 29) (h 82) (h 83) (h 84) (h 85) (h 87) (h 86) j) : anyF (hl_m h p s) 0 N = anyF (hl_c h p s) 0 N := by
  apply anyF_congr
  intro k _ hk
  obtain ⟨⟨u1, u2, u3, u4, u5, u6, u7⟩, ⟨c1, c2, c3⟩, hd⟩ := hE k (by omega)
  unfold hl_m hl_c
  rw [c1]
  rcases hd with ⟨d1, d2, d3, d4⟩ | ⟨d1, d2, d3, d4, d5⟩
  · rw [d1, d2, d3]
  · have e1 : ¬ h 83 k = -1 := by rw [d3]; grind
    have e2 : ¬ h 25 k = -1 := by grind
    simp [e1, e2]
theorem mv_69 {s z t : Int32} {N : Nat} (hN : N ≤ 80) (hE : h 23 0 = Int32.ofNat N) (hs : am_ix s 5) : mv 4 69 [some (.ref 0), some (.int s), some (.int z), some (.int t), none] h (some (.int (if (sp_cut true z t (spT h s N)).2 < (sp_cut true z t (spT h s N)).1 then 0 else 1))) (wrp h 61 0 1 (sp_cut true z t (spT h s N))) := fun d L xs o g Q T hq => by
  refine sm_69 ((mv_46 hN hE hs).use (sm_69_5 rfl rfl rfl ?_))
  rw [wrp_gi h 61 _ (show (0 : Nat) ≠ 1 by decide), wrp_gj, wrp_i h 61 _ _ (show (0 : Nat) ≠ 1 by decide), wrp_j]
  generalize spT h s N = sp at hq
  by_cases ht : t = 0
  · rw [if_pos ht]
    simp only [sp_cut, if_true, if_pos ht] at hq
    by_cases he : (if z - 1 < sp.2 then z - 1 else sp.2) < sp.1
    · rw [if_pos he] at hq ⊢; exact hq
    · rw [if_neg he] at hq ⊢; exact hq
  · rw [if_neg ht]
    simp only [sp_cut, if_true, if_neg ht] at hq
    by_cases he : sp.2 < (if sp.1 < z then z else sp.1)
    · rw [if_pos he] at hq ⊢; exact hq
    · rw [if_neg he] at hq ⊢; exact hq
end
theorem op_lead {h : am_M} (hI : Iv h) (p s z t : Int32) (ht : t = 0 ∨ t = 1) : opR 65 [some (.ref 0), some (.int p), some (.int s), some (.int z), some (.int t)] 165 [some (.ref 64), some (.int p), some (.int s), some (.int z), some (.int t)] cdN h := by
  have hI' := hI
  obtain ⟨hT, hP, ⟨N, hN, e1, e2, hE, hG, hJ, hS⟩, hII, hR, hK⟩ := hI'
  obtain ⟨p0, p1, p2, p3, p4, p5, p6⟩ := hP.1
  obtain ⟨b0, b1, b2, b3, b4, b5, b6, b7, b8, b9, b10, b11, b12, b13⟩ := hP.2.1
  have b3' : ¬ 5 < h 3 1 := by grind
  by_cases a1 : p < 0
  · exact op_fail hI (fun d L xs o g Q T hq => sm_65 (am_ift a1 (hq))) (fun d L xs o g Q T hq => sm_165 (am_ift a1 (hq)))
  by_cases a2 : p < h 3 1
  rotate_left
  · have n2 : h 68 1 - 1 < p := by rw [p1]; exact rq5n b2 b3' a2
    exact op_fail hI (fun d L xs o g Q T hq => sm_65 (am_iff a1 (am_iff a2 (hq)))) (fun d L xs o g Q T hq => sm_165 (am_iff a1 (am_ift n2 (hq))))
  have n2 : ¬ h 68 1 - 1 < p := by rw [p1]; exact rq5 b2 b3' a2
  by_cases a3 : s < 0
  · exact op_fail hI (fun d L xs o g Q T hq => sm_65 (am_iff a1 (am_ift a2 (am_ift a3 (hq))))) (fun d L xs o g Q T hq => sm_165 (am_iff a1 (am_iff n2 (am_ift a3 (hq)))))
  by_cases a4 : s < h 3 0
  rotate_left
  · have n4 : h 68 0 - 1 < s := by rw [p0]; exact rq5n b0 b1 a4
    exact op_fail hI (fun d L xs o g Q T hq => sm_65 (am_iff a1 (am_ift a2 (am_iff a3 (am_iff a4 (hq)))))) (fun d L xs o g Q T hq => sm_165 (am_iff a1 (am_iff n2 (am_iff a3 (am_ift n4 (hq))))))
  have n4 : ¬ h 68 0 - 1 < s := by rw [p0]; exact rq5 b0 b1 a4
  have ia := iv_at a3 a4 b1
  have hs := hP.2.2.1 _ ia.1 ia.2.1
  have hf : Iv (am_set (am_set (am_set h 33 1 (h 33 1 + 1)) 64 3 0) 78 1 (h 78 1 + 1)) := ⟨hT, hP, ⟨N, hN, e1, e2, hE, hG, ⟨hJ.1, by show h 78 1 + 1 = h 33 1 + 1; rw [hJ.2.1], hJ.2.2⟩, hS⟩, hII, hR, hK⟩
  have ref : mv 50 65 [some (.ref 0), some (.int p), some (.int s), some (.int z), some (.int t)] h (some (.int (-1))) (am_set h 33 1 (h 33 1 + 1)) → mv 50 165 [some (.ref 64), some (.int p), some (.int s), some (.int z), some (.int t)] (am_set h 33 1 (h 33 1 + 1)) (some (.int (-1))) (am_set (am_set (am_set h 33 1 (h 33 1 + 1)) 64 3 0) 78 1 (h 78 1 + 1)) → opR 65 [some (.ref 0), some (.int p), some (.int s), some (.int z), some (.int t)] 165 [some (.ref 64), some (.int p), some (.int s), some (.int z), some (.int t)] cdN h := fun A B => ⟨0, -1, -1, _, _, .v A, B, hf, rfl, fun _ => rfl, by decide⟩
  by_cases f : h 23 0 < 80
  rotate_left
  · have f' : h 64 28 = 80 := by
      rw [e2]
      have : N = 80 := by
        rw [e1] at f
        have : ¬ Int32.ofNat N < Int32.ofNat 80 := f
        rw [nz_nlt (by omega) (by decide)] at this
        omega
      rw [this]
      rfl
    exact ref (fun d L xs o g Q T hq => sm_65 (am_iff a1 (am_ift a2 (am_iff a3 (am_ift a4 (am_iff f (hq))))))) (fun d L xs o g Q T hq => sm_165 (am_iff a1 (am_iff n2 (am_iff a3 (am_iff n4 (am_ift f' (hq)))))))
  have hN2 : N < 80 := by
    rw [e1] at f
    have : Int32.ofNat N < Int32.ofNat 80 := f
    rw [nz_nlt (by omega) (by decide)] at this
    exact this
  have f' : ¬ h 64 28 = 80 := by
    rw [e2]
    show ¬ Int32.ofNat N = Int32.ofNat 80
    rw [nz_inj (by omega) (by decide)]
    omega
  by_cases c1 : z < 1
  · exact ref (fun d L xs o g Q T hq => sm_65 (am_iff a1 (am_ift a2 (am_iff a3 (am_ift a4 (am_ift f (am_ift c1 (hq)))))))) (fun d L xs o g Q T hq => sm_165 (am_iff a1 (am_iff n2 (am_iff a3 (am_iff n4 (am_iff f' (am_ift c1 (hq))))))))
  by_cases c2 : 60 < z
  · exact ref (fun d L xs o g Q T hq => sm_65 (am_iff a1 (am_ift a2 (am_iff a3 (am_ift a4 (am_ift f (am_iff c1 (am_ift c2 (hq))))))))) (fun d L xs o g Q T hq => sm_165 (am_iff a1 (am_iff n2 (am_iff a3 (am_iff n4 (am_iff f' (am_iff c1 (am_ift c2 (hq)))))))))
  have HL := mv_68 (h := h) (p := p) (s := s) hN e1
  by_cases hl : anyF (hl_c h p s) 0 N = true
  · rw [if_pos hl] at HL
    have ML := mv_166t (h := am_set (am_set h 33 1 (h 33 1 + 1)) 64 3 0) (p := p) (s := s) hN e2 (show anyF (hl_m h p s) 0 N = true by rw [hl_eq hE]; exact hl)
    exact ref (fun d L xs o g Q T hq => sm_65 (am_iff a1 (am_ift a2 (am_iff a3 (am_ift a4 (am_ift f (am_iff c1 (am_iff c2 (HL.use (sm_65_36 (am_iff (by decide) hq))))))))))) (fun d L xs o g Q T hq => sm_165 (am_iff a1 (am_iff n2 (am_iff a3 (am_iff n4 (am_iff f' (am_iff c1 (am_iff c2 (ML.use (sm_165_52 (am_iff (by decide) hq)))))))))))
  rw [if_neg hl] at HL
  have hlm : ¬ anyF (hl_m h p s) 0 N = true := by rw [hl_eq hE]; exact hl
  have q0 : ((h 69 s.toNatClampNeg, h 70 s.toNatClampNeg) : Int32 × Int32) = (h 4 s.toNatClampNeg, h 5 s.toNatClampNeg) := by rw [hs.1.1, hs.1.2.1]
  have H1 := mv_69 (h := h) (s := s) (z := z) (t := t) hN e1 ia.2.2.1
  have k1 := sp_mt (s := s) hE (Nat.le_refl N) (h 4 s.toNatClampNeg, h 5 s.toNatClampNeg)
  have k2 : spT h s N = _ := sp_tr (s := s) b3 hE (Nat.le_refl N) (h 4 s.toNatClampNeg, h 5 s.toNatClampNeg)
  have k3 : spn (tk_mt h s) (h 85) (h 87) (h 69 s.toNatClampNeg, h 70 s.toNatClampNeg) N = spT h s N := by rw [q0, k1, k2]
  generalize spT h s N = sp at H1 k3 k2
  have gm : ∀ (h' : am_M), h' 64 28 = h 64 28 → h' 83 = h 83 → h' 84 = h 84 → h' 85 = h 85 → h' 87 = h 87 → h' 69 = h 69 → h' 70 = h 70 → mv 1 153 [some (.ref 64), some (.int s), none] h' none (wrp h' 64 35 36 sp) := fun h' g1 g2 g3 g4 g5 g6 g7 => by
    have := mv_153 (h := h') (s := s) hN (g1.trans e2) ia.2.2.2
    have e : tk_mt h' s = tk_mt h s := by funext k; simp only [tk_mt, g2, g3]
    rw [e, g4, g5, g6, g7, k3] at this
    exact this
  by_cases em : (sp_cut true z t sp).2 < (sp_cut true z t sp).1
  · rw [if_pos em] at H1
    refine ⟨0, -1, -1, am_set (wrp h 61 0 1 (sp_cut true z t sp)) 33 1 (h 33 1 + 1), am_set (wrp (am_set (am_set (wrp h 61 0 1 (sp_cut true z t sp)) 33 1 (h 33 1 + 1)) 64 3 0) 64 35 36 (sp_cut true z t sp)) 78 1 (h 78 1 + 1), .v fun d L xs o g Q T hq => sm_65 (am_iff a1 (am_ift a2 (am_iff a3 (am_ift a4 (am_ift f (am_iff c1 (am_iff c2 (HL.use (sm_65_36 (am_ift rfl (H1.use (sm_65_47 (am_ift rfl hq))))))))))))), fun d L xs o g Q T hq => sm_165 (am_iff a1 (am_iff n2 (am_iff a3 (am_iff n4 (am_iff f' (am_iff c1 (am_iff c2 (?_)))))))), hf, rfl, fun _ => rfl, by decide⟩
    have ML := mv_166f (h := am_set (am_set (wrp h 61 0 1 (sp_cut true z t sp)) 33 1 (h 33 1 + 1)) 64 3 0) (p := p) (s := s) hN e2 hlm
    have GM := gm (am_set (am_set (wrp h 61 0 1 (sp_cut true z t sp)) 33 1 (h 33 1 + 1)) 64 3 0) rfl rfl rfl rfl rfl rfl rfl
    exact ML.use (sm_165_52 (am_ift rfl (GM.use (ml_ref em hq))))
  rw [if_neg em] at H1
  have k1' : (h 23 0).toNatClampNeg = N := by rw [e1]; exact nz_c N (by omega)
  have i1 : am_ix (h 23 0) 80 := by rw [e1]; exact ix_n hN2 (by decide)
  have nb := nb_bool ht
  have A : mv 50 65 [some (.ref 0), some (.int p), some (.int s), some (.int z), some (.int t)] h (some (.int (h 23 0 + 1))) (am_set (am_set (am_set (am_set (am_set (am_set (am_set (wrp h 61 0 1 (sp_cut true z t sp)) 24 N p) 25 N (-1)) 26 N s) 27 N z) 28 N t) 29 N (h 12 3)) 23 0 (h 23 0 + 1)) := fun d L xs o g Q T hq => sm_65 (am_iff a1 (am_ift a2 (am_iff a3 (am_ift a4 (am_ift f (am_iff c1 (am_iff c2 (HL.use (sm_65_36 (am_ift rfl (H1.use (sm_65_47 (am_iff (by decide) (by rw [show (wrp h 61 0 1 (sp_cut true z t sp)) 23 0 = h 23 0 from rfl, k1', nb]; exact ⟨i1, hq⟩))))))))))))))
  generalize hh1 : am_set (am_set (am_set (am_set (am_set (am_set (am_set (wrp h 61 0 1 (sp_cut true z t sp)) 24 N p) 25 N (-1)) 26 N s) 27 N z) 28 N t) 29 N (h 12 3)) 23 0 (h 23 0 + 1) = h1 at A
  have B : mv 50 165 [some (.ref 64), some (.int p), some (.int s), some (.int z), some (.int t)] h1 (some (.int (h 64 28 + 1))) (am_set (am_set (am_set (am_set (am_set (am_set (am_set (wrp (am_set h1 64 3 0) 64 35 36 (sp_cut true z t sp)) 82 N p) 83 N (-1)) 84 N s) 85 N z) 87 N t) 86 N 0) 64 28 (h 64 28 + 1)) := fun d L xs o g Q T hq => by
    subst hh1
    have ML := mv_166f (h := am_set (am_set (am_set (am_set (am_set (am_set (am_set (am_set (wrp h 61 0 1 (sp_cut true z t sp)) 24 N p) 25 N (-1)) 26 N s) 27 N z) 28 N t) 29 N (h 12 3)) 23 0 (h 23 0 + 1)) 64 3 0) (p := p) (s := s) hN e2 hlm
    have GM := gm (am_set (am_set (am_set (am_set (am_set (am_set (am_set (am_set (wrp h 61 0 1 (sp_cut true z t sp)) 24 N p) 25 N (-1)) 26 N s) 27 N z) 28 N t) 29 N (h 12 3)) 23 0 (h 23 0 + 1)) 64 3 0) rfl rfl rfl rfl rfl rfl rfl
    exact sm_165 (am_iff a1 (am_iff n2 (am_iff a3 (am_iff n4 (am_iff f' (am_iff c1 (am_iff c2 (ML.use (sm_165_52 (am_ift rfl (GM.use (ml_add hN2 e2 ht em hq))))))))))))
  subst hh1
  refine ⟨0, h 23 0 + 1, h 64 28 + 1, _, _, .v A, B, ⟨hT, hP, ⟨N + 1, by omega, ?_, ?_, ev_add hE ⟨⟨a1, a2, a3, a4, c1, c2, ht⟩, .inl ⟨rfl, rfl, rfl, rfl⟩⟩, hG, hJ, fun s' hs1 hs' => ?_⟩, hII, hR, hK⟩, rfl, fun _ => by rw [e1, e2], by decide⟩
  · show h 23 0 + 1 = _
    rw [e1, nz_succ]
  · show h 64 28 + 1 = _
    rw [e2, nz_succ]
  · have hb := hS s' hs1 hs'
    show ¬ (spL (upd (h 25) N (-1)) (upd (h 26) N s) (upd (h 27) N z) (upd (h 28) N t) (Int32.ofNat s') (h 4 s') (h 5 s') (N + 1)).2 < (spL (upd (h 25) N (-1)) (upd (h 26) N s) (upd (h 27) N z) (upd (h 28) N t) (Int32.ofNat s') (h 4 s') (h 5 s') (N + 1)).1
    rw [sp_add]
    by_cases es : s = Int32.ofNat s'
    · have e3 : s.toNatClampNeg = s' := by rw [es]; exact nz_c s' (by omega)
      rw [e3] at k2
      have k4 : spL (h 25) (h 26) (h 27) (h 28) s (h 4 s') (h 5 s') N = sp := k2.symm
      rw [← es, k4]
      simp only [decide_true, Bool.and_self]
      exact em
    · simp only [es, decide_false, Bool.and_false]
      exact hb
