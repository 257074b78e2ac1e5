/-! ===== spans: leads and words without a set; the model's ===== -/
section
variable {L : Nat} {xs : Nat → Int32} {d : Nat} {h : am_M} {o : am_L} {g : Nat} {Q : Option Value → am_M → am_L → Nat → Prop} {T : Nat → am_M → am_L → Nat → Prop}
def tk_wo (h : am_M) (s set : Int32) (k : Nat) : Bool := (decide (h 25 k = -1) || decide (set &&& (1 <<< (h 25 k &&& 31)) = 0)) && decide (h 26 k = s)
theorem lp_16 {s set : Int32} {N : Nat} (hN : N ≤ 80) (hE : h 23 0 = Int32.ofNat N) (s0 : Int32 × Int32) : ∀ (m k : Nat) (q5 : Option Value), am_nl q5 = true → k + m = N → Q none (wrp h 61 0 1 (spn (tk_wo h s set) (h 27) (h 28) s0 N)) o g → am_X L xs (d + 1) 16 25 [some (.ref 23), some (.int s), some (.int set), some (.ref 61), some (.int (Int32.ofNat k)), q5] [] am_C0 (wrp h 61 0 1 (spn (tk_wo h s set) (h 27) (h 28) s0 k)) o g Q T := by
  intro m
  induction m with
  | zero =>
    intro k q5 hq5 hk hq
    refine sm_16_25 hq5 ?_
    rw [wrp_c h 0 1 _ (show (23 : Nat) ≠ 61 by decide), hE, if_neg (by rw [nz_nlt (by omega) (by omega)]; omega)]
    have : k = N := by omega
    subst this
    exact hq
  | succ m ih =>
    intro k q5 hq5 hk hq
    have IH := fun q hn => ih (k + 1) q hn (by omega) hq
    refine sm_16_25 hq5 ?_
    rw [wrp_c h 0 1 _ (show (23 : Nat) ≠ 61 by decide), hE, if_pos (by rw [nz_nlt (by omega) (by omega)]; omega)]
    refine ⟨ix_n (by omega) (by decide), ?_⟩
    rw [nz_c k (by omega), nz_succ k]
    simp only [wrp_gi h 61 _ (show (0 : Nat) ≠ 1 by decide), wrp_gj, wrp_i h 61 _ _ (show (0 : Nat) ≠ 1 by decide), wrp_j, wrp_c h 0 1 _ (show (24 : Nat) ≠ 61 by decide), wrp_c h 0 1 _ (show (25 : Nat) ≠ 61 by decide), wrp_c h 0 1 _ (show (26 : Nat) ≠ 61 by decide), wrp_c h 0 1 _ (show (27 : Nat) ≠ 61 by decide), wrp_c h 0 1 _ (show (28 : Nat) ≠ 61 by decide)]
    have I1 := IH (some (.int 1)) rfl
    have I0 := IH (some (.int 0)) rfl
    simp only [spn, sp_cut, tk_wo] at I1 I0
    by_cases h1 : h 25 k = -1
    · by_cases h2 : h 26 k = s
      · by_cases h4 : h 28 k = 0
        · simpa [h1, h2, h4] using I1
        · simpa [h1, h2, h4] using I1
      · simpa [h1, h2] using I1
    · by_cases h3 : set &&& (1 <<< (h 25 k &&& 31)) = 0
      · by_cases h2 : h 26 k = s
        · by_cases h4 : h 28 k = 0
          · simpa [h1, h2, h3, h4] using I1
          · simpa [h1, h2, h3, h4] using I1
        · simpa [h1, h2, h3] using I1
      · simpa [h1, h3] using I0
theorem mv_16 {s set : Int32} {N : Nat} (hN : N ≤ 80) (hE : h 23 0 = Int32.ofNat N) (hs : am_ix s 5) : mv 1 16 [some (.ref 23), some (.int s), some (.int set), some (.ref 61), none, none] h none (wrp h 61 0 1 (spn (tk_wo h s set) (h 27) (h 28) (h 4 s.toNatClampNeg, h 5 s.toNatClampNeg) N)) := fun d L xs o g Q T hq => by
  refine sm_16 ⟨hs, ?_⟩
  exact lp_16 hN hE (h 4 s.toNatClampNeg, h 5 s.toNatClampNeg) N 0 none rfl (by omega) hq
/-- what all leads tell of a ship -/
def spT (h : am_M) (s : Int32) (N : Nat) : Int32 × Int32 := spn (tk_wo h s 15) (h 27) (h 28) (h 4 s.toNatClampNeg, h 5 s.toNatClampNeg) N
theorem mv_46 {s : Int32} {N : Nat} (hN : N ≤ 80) (hE : h 23 0 = Int32.ofNat N) (hs : am_ix s 5) : mv 3 46 [some (.ref 0), some (.int s)] h (some (.ref 61)) (wrp h 61 0 1 (spT h s N)) := fun d L xs o g Q T hq => by
  refine sm_46 ?_
  refine sm_47 ?_
  refine (mv_16 hN hE hs).use ?_
  refine sm_47_8 rfl rfl rfl ?_
  refine sm_46_12 rfl ?_
  exact hq
def tk_mt (h : am_M) (s : Int32) (k : Nat) : Bool := decide (h 83 k = -1) && decide (h 84 k = s)
theorem lp_153 {s : Int32} {N : Nat} (hN : N ≤ 80) (hE : h 64 28 = Int32.ofNat N) (s0 : Int32 × Int32) : ∀ (m k : Nat), k + m = N → Q none (wrp h 64 35 36 (spn (tk_mt h s) (h 85) (h 87) s0 N)) o g → am_X L xs (d + 1) 153 7 [some (.ref 64), some (.int s), some (.int (Int32.ofNat k))] [] am_C0 (wrp h 64 35 36 (spn (tk_mt h s) (h 85) (h 87) s0 k)) o g Q T := by
  intro m
  induction m with
  | zero =>
    intro k hk hq
    refine sm_153_7 ?_
    rw [wrp_s h 64 _ (show (28 : Nat) ≠ 35 by decide) (show (28 : Nat) ≠ 36 by decide), hE, if_neg (by rw [nz_nlt (by omega) (by omega)]; omega)]
    have : k = N := by omega
    subst this
    exact hq
  | succ m ih =>
    intro k hk hq
    have IH := ih (k + 1) (by omega) hq
    refine sm_153_7 ?_
    rw [wrp_s h 64 _ (show (28 : Nat) ≠ 35 by decide) (show (28 : Nat) ≠ 36 by decide), hE, if_pos (by rw [nz_nlt (by omega) (by omega)]; omega)]
    refine ⟨ix_n (by omega) (by decide), ?_⟩
    rw [nz_c k (by omega), nz_succ k]
    simp only [wrp_gi h 64 _ (show (35 : Nat) ≠ 36 by decide), wrp_gj, wrp_i h 64 _ _ (show (35 : Nat) ≠ 36 by decide), wrp_j, wrp_c h 35 36 _ (show (82 : Nat) ≠ 64 by decide), wrp_c h 35 36 _ (show (83 : Nat) ≠ 64 by decide), wrp_c h 35 36 _ (show (84 : Nat) ≠ 64 by decide), wrp_c h 35 36 _ (show (85 : Nat) ≠ 64 by decide), wrp_c h 35 36 _ (show (87 : Nat) ≠ 64 by decide)]
    simp only [spn, sp_cut, tk_mt] at IH
    by_cases h1 : h 83 k = -1
    · by_cases h2 : h 84 k = s
      · by_cases h4 : h 87 k = 0
        · simpa [h1, h2, h4] using IH
        · simpa [h1, h2, h4] using IH
      · simpa [h1, h2] using IH
    · simpa [h1] using IH
theorem mv_153 {s : Int32} {N : Nat} (hN : N ≤ 80) (hE : h 64 28 = Int32.ofNat N) (hs : am_ix s 10) : mv 1 153 [some (.ref 64), some (.int s), none] h none (wrp h 64 35 36 (spn (tk_mt h s) (h 85) (h 87) (h 69 s.toNatClampNeg, h 70 s.toNatClampNeg) N)) := fun d L xs o g Q T hq => by
  refine sm_153 ⟨hs, ?_⟩
  exact lp_153 hN hE (h 69 s.toNatClampNeg, h 70 s.toNatClampNeg) N 0 (by omega) hq
def tk_ms (h : am_M) (p s but : Int32) (k : Nat) : Bool := decide (h 84 k = s) && (decide (¬ Int32.ofNat k = but) && decide ((if h 83 k = -1 then h 82 k else h 83 k) = p))
theorem lp_172 {p s but : Int32} {N : Nat} (hN : N ≤ 80) (s0 : Int32 × Int32) : ∀ (m k : Nat), k + m = N → Q none (wrp h 64 35 36 (spn (tk_ms h p s but) (h 85) (h 87) s0 N)) o g → am_X L xs (d + 1) 172 8 [some (.ref 64), some (.int p), some (.int s), some (.int (Int32.ofNat N)), some (.int but), some (.int (Int32.ofNat k))] [] am_C0 (wrp h 64 35 36 (spn (tk_ms h p s but) (h 85) (h 87) s0 k)) o g Q T := by
  intro m
  induction m with
  | zero =>
    intro k hk hq
    refine sm_172_8 ?_
    rw [if_neg (by rw [nz_nlt (by omega) (by omega)]; omega)]
    have : k = N := by omega
    subst this
    exact hq
  | succ m ih =>
    intro k hk hq
    have IH := ih (k + 1) (by omega) hq
    refine sm_172_8 ?_
    rw [if_pos (by rw [nz_nlt (by omega) (by omega)]; omega)]
    refine ⟨ix_n (by omega) (by decide), ?_⟩
    rw [nz_c k (by omega), nz_succ k]
    simp only [wrp_gi h 64 _ (show (35 : Nat) ≠ 36 by decide), wrp_gj, wrp_i h 64 _ _ (show (35 : Nat) ≠ 36 by decide), wrp_j, wrp_c h 35 36 _ (show (82 : Nat) ≠ 64 by decide), wrp_c h 35 36 _ (show (83 : Nat) ≠ 64 by decide), wrp_c h 35 36 _ (show (84 : Nat) ≠ 64 by decide), wrp_c h 35 36 _ (show (85 : Nat) ≠ 64 by decide), wrp_c h 35 36 _ (show (87 : Nat) ≠ 64 by decide)]
    simp only [spn, sp_cut, tk_ms] at IH
    by_cases h2 : h 84 k = s
    · by_cases h3 : Int32.ofNat k = but
      · simpa [h2, h3] using IH
      · by_cases h1 : h 83 k = -1
        · by_cases h5 : h 82 k = p
          · by_cases h4 : h 87 k = 0
            · simpa [h1, h2, h3, h4, h5] using IH
            · simpa [h1, h2, h3, h4, h5] using IH
          · simpa [h1, h2, h3, h5] using IH
        · by_cases h5 : h 83 k = p
          · have h1' : ¬ p = -1 := h5 ▸ h1
            by_cases h4 : h 87 k = 0
            · simpa [h1', h2, h3, h4, h5] using IH
            · simpa [h1', h2, h3, h4, h5] using IH
          · simpa [h1, h2, h3, h5] using IH
    · simpa [h2] using IH
theorem mv_172 {p s but : Int32} {N : Nat} (hN : N ≤ 80) (hs : am_ix s 10) : mv 1 172 [some (.ref 64), some (.int p), some (.int s), some (.int (Int32.ofNat N)), some (.int but), none] h none (wrp h 64 35 36 (spn (tk_ms h p s but) (h 85) (h 87) (h 69 s.toNatClampNeg, h 70 s.toNatClampNeg) N)) := fun d L xs o g Q T hq => by
  refine sm_172 ⟨hs, ?_⟩
  exact lp_172 hN (h 69 s.toNatClampNeg, h 70 s.toNatClampNeg) N 0 (by omega) hq
end
