/-! ===== person ===== -/
def sumF (f : Nat → Int32) : Nat → Int32
  | 0 => 0
  | n + 1 => sumF f n + f n
theorem sumF_congr {f f' : Nat → Int32} : ∀ n, (∀ k, k < n → f k = f' k) → sumF f n = sumF f' n
  | 0, _ => rfl
  | n + 1, h => by
    simp only [sumF]
    rw [sumF_congr n (fun k hk => h k (by omega)), h n (by omega)]
def pc_c (h : am_M) (p w : Int32) (k : Nat) : Int32 := if w = 0 then (if h 24 k = p then h 29 k else 0) else if w = 1 then (if h 25 k = p then h 29 k else 0) else if w = 2 then (if h 25 k = -1 then (if h 24 k = p then 1 else 0) else 0) else if w = 3 then (if h 25 k = p then 1 else 0) else if w = 4 then (if h 25 k = -1 then 0 else if h 24 k = p then 1 else 0) else 0
def pc_m (h : am_M) (p w : Int32) (k : Nat) : Int32 := if h 83 k = -1 then (if w = 0 then (if h 82 k = p then h 68 6 else 0) else if w = 2 then (if h 82 k = p then 1 else 0) else 0) else if w = 0 then (if h 83 k = p then h 86 k else 0) else if w = 2 then 0 else if w = 1 then (if h 82 k = p then h 86 k else 0) else if w = 3 then (if h 82 k = p then 1 else 0) else (if h 83 k = p then 1 else 0)
section
variable {L : Nat} {xs : Nat → Int32} {d : Nat} {h : am_M} {o : am_L} {g : Nat} {Q : Option Value → am_M → am_L → Nat → Prop} {T : Nat → am_M → am_L → Nat → Prop}
theorem lp_49 {p w : Int32} {N : Nat} (hN : N ≤ 80) (hE : h 23 0 = Int32.ofNat N) : ∀ (m k : Nat), k + m = N → Q (some (.int (sumF (pc_c h p w) N))) h o g → am_X L xs (d + 2) 49 16 [some (.ref 0), some (.int p), some (.int w), some (.int (sumF (pc_c h p w) k)), some (.int (Int32.ofNat k))] [] am_C0 h o g Q T := by
  intro m
  induction m with
  | zero =>
    intro k hk hq
    refine sm_49_16 ?_
    rw [hE, if_neg (by rw [nz_nlt (by omega) (by omega)]; omega)]
    have : k = N := by omega
    subst this
    exact hq
  | succ m ih =>
    intro k hk hq
    have IH := ih (k + 1) (by omega) hq
    refine sm_49_16 ?_
    rw [hE, if_pos (by rw [nz_nlt (by omega) (by omega)]; omega)]
    have ix : am_ix (Int32.ofNat k) 80 := ix_n (by omega) (by decide)
    rw [nz_c k (by omega), nz_succ k]
    simp only [sumF, pc_c] at IH
    by_cases w0 : w = 0
    · rw [if_pos w0]
      refine ⟨ix, ?_⟩
      by_cases h1 : h 24 k = p
      · rw [if_pos h1]; simpa [w0, h1] using IH
      · rw [if_neg h1]; simpa [w0, h1] using IH
    rw [if_neg w0]
    by_cases w1 : w = 1
    · rw [if_pos w1]
      refine ⟨ix, ?_⟩
      by_cases h1 : h 25 k = p
      · rw [if_pos h1]; simpa [w0, w1, h1] using IH
      · rw [if_neg h1]; simpa [w0, w1, h1] using IH
    rw [if_neg w1]
    by_cases w2 : w = 2
    · rw [if_pos w2]
      refine ⟨ix, ?_⟩
      by_cases h1 : h 25 k = -1
      · rw [if_pos h1]
        by_cases h2 : h 24 k = p
        · rw [if_pos h2]; simpa [w0, w1, w2, h1, h2] using IH
        · rw [if_neg h2]; simpa [w0, w1, w2, h1, h2] using IH
      · rw [if_neg h1]; simpa [w0, w1, w2, h1] using IH
    rw [if_neg w2]
    by_cases w3 : w = 3
    · rw [if_pos w3]
      refine ⟨ix, ?_⟩
      by_cases h1 : h 25 k = p
      · rw [if_pos h1]; simpa [w0, w1, w2, w3, h1] using IH
      · rw [if_neg h1]; simpa [w0, w1, w2, w3, h1] using IH
    rw [if_neg w3]
    by_cases w4 : w = 4
    · rw [if_pos w4]
      refine ⟨ix, ?_⟩
      by_cases h1 : h 25 k = -1
      · rw [if_pos h1]; simpa [w0, w1, w2, w3, w4, h1] using IH
      · rw [if_neg h1]
        by_cases h2 : h 24 k = p
        · rw [if_pos h2]; simpa [w0, w1, w2, w3, w4, h1, h2] using IH
        · rw [if_neg h2]; simpa [w0, w1, w2, w3, w4, h1, h2] using IH
    · rw [if_neg w4]; simpa [w0, w1, w2, w3, w4] using IH
theorem lp_156 {p w : Int32} {N : Nat} (hN : N ≤ 80) (hE : h 64 28 = Int32.ofNat N) : ∀ (m k : Nat), k + m = N → Q (some (.int (sumF (pc_m h p w) N))) h o g → am_X L xs (d + 1) 156 33 [some (.ref 64), some (.int p), some (.int w), some (.int (sumF (pc_m h p w) k)), some (.int (Int32.ofNat k))] [] am_C0 h o g Q T := by
  intro m
  induction m with
  | zero =>
    intro k hk hq
    refine sm_156_33 ?_
    rw [hE, if_neg (by rw [nz_nlt (by omega) (by omega)]; omega)]
    have : k = N := by omega
    subst this
    exact hq
  | succ m ih =>
    intro k hk hq
    have IH := ih (k + 1) (by omega) hq
    refine sm_156_33 ?_
    rw [hE, if_pos (by rw [nz_nlt (by omega) (by omega)]; omega)]
    refine ⟨ix_n (by omega) (by decide), ?_⟩
    rw [nz_c k (by omega), nz_succ k]
    simp only [sumF, pc_m] at IH
    by_cases h1 : h 83 k = -1
    · rw [if_pos h1]
      by_cases w0 : w = 0
      · rw [if_pos w0]
        by_cases h2 : h 82 k = p
        · rw [if_pos h2]; simpa [w0, h1, h2] using IH
        · rw [if_neg h2]; simpa [w0, h1, h2] using IH
      rw [if_neg w0]
      by_cases w2 : w = 2
      · rw [if_pos w2]
        by_cases h2 : h 82 k = p
        · rw [if_pos h2]; simpa [w0, w2, h1, h2] using IH
        · rw [if_neg h2]; simpa [w0, w2, h1, h2] using IH
      rw [if_neg w2]; simpa [w0, w2, h1] using IH
    rw [if_neg h1]
    by_cases w0 : w = 0
    · rw [if_pos w0]
      by_cases h2 : h 83 k = p
      · have h1' : ¬ p = -1 := h2 ▸ h1
        rw [if_pos h2]; simpa [w0, h1', h2] using IH
      · rw [if_neg h2]; simpa [w0, h1, h2] using IH
    rw [if_neg w0]
    by_cases w2 : w = 2
    · rw [if_pos w2]; simpa [w0, w2, h1] using IH
    rw [if_neg w2]
    by_cases w1 : w = 1
    · rw [if_pos w1]
      by_cases h2 : h 82 k = p
      · rw [if_pos h2]; simpa [w0, w1, w2, h1, h2] using IH
      · rw [if_neg h2]; simpa [w0, w1, w2, h1, h2] using IH
    rw [if_neg w1]
    by_cases w3 : w = 3
    · rw [if_pos w3]
      by_cases h2 : h 82 k = p
      · rw [if_pos h2]; simpa [w0, w1, w2, w3, h1, h2] using IH
      · rw [if_neg h2]; simpa [w0, w1, w2, w3, h1, h2] using IH
    rw [if_neg w3]
    by_cases h2 : h 83 k = p
    · have h1' : ¬ p = -1 := h2 ▸ h1
      rw [if_pos h2]; simpa [w0, w1, w2, w3, h1', h2] using IH
    · rw [if_neg h2]; simpa [w0, w1, w2, w3, h1, h2] using IH
end
theorem op_person {h : am_M} (hI : Iv h) (p w : Int32) : opR 49 [some (.ref 0), some (.int p), some (.int w), none, none] 156 [some (.ref 64), some (.int p), some (.int w), none, none] cdN h := by
  have hI' := hI
  obtain ⟨hT, hP, ⟨N, hN, e1, e2, hE, hG, hJ, hS⟩, hII, hR, hK⟩ := hI'
  obtain ⟨p0, p1, p2, p3, p4, p5, p6⟩ := hP.1
  obtain ⟨b0, b1, b2, b3, b4, b5, b6, b7, b8, b9, b10, b11, b12, b13⟩ := hP.2.1
  have b3' : ¬ 5 < h 3 1 := by grind
  by_cases a1 : p < 0
  · exact op_fail hI (fun d L xs o g Q T hq => sm_49 (am_ift a1 (hq))) (fun d L xs o g Q T hq => sm_156 (am_ift a1 (hq)))
  by_cases a2 : p < h 3 1
  rotate_left
  · have n2 : h 68 1 - 1 < p := by rw [p1]; exact rq5n b2 b3' a2
    exact op_fail hI (fun d L xs o g Q T hq => sm_49 (am_iff a1 (am_iff a2 (hq)))) (fun d L xs o g Q T hq => sm_156 (am_iff a1 (am_ift n2 (hq))))
  have n2 : ¬ h 68 1 - 1 < p := by rw [p1]; exact rq5 b2 b3' a2
  by_cases a3 : w < 0
  · exact op_fail hI (fun d L xs o g Q T hq => sm_49 (am_iff a1 (am_ift a2 (am_ift a3 (hq))))) (fun d L xs o g Q T hq => sm_156 (am_iff a1 (am_iff n2 (am_ift a3 (hq)))))
  by_cases a4 : 4 < w
  · exact op_fail hI (fun d L xs o g Q T hq => sm_49 (am_iff a1 (am_ift a2 (am_iff a3 (am_ift a4 (hq)))))) (fun d L xs o g Q T hq => sm_156 (am_iff a1 (am_iff n2 (am_iff a3 (am_ift a4 (hq))))))
  have es : sumF (pc_m h p w) N = sumF (pc_c h p w) N := by
    apply sumF_congr
    intro k hk
    obtain ⟨⟨u1, u2, u3, u4, u5, u6, u7⟩, ⟨c1, c2, c3⟩, hd⟩ := hE k hk
    have ew : w = 0 ∨ w = 1 ∨ w = 2 ∨ w = 3 ∨ w = 4 := by grind
    unfold pc_m pc_c
    rcases hd with ⟨d1, d2, d3, d4⟩ | ⟨d1, d2, d3, d4, d5⟩
    · have np : ¬ (-1 : Int32) = p := by grind
      rcases ew with e | e | e | e | e <;> subst e <;> simp [d1, d2, d3, d4, p6, np]
    · have e1 : ¬ h 24 k = -1 := by grind
      have e2 : ¬ h 25 k = -1 := by grind
      rcases ew with e | e | e | e | e <;> subst e <;> simp [d3, d4, d5, e1, e2]
  exact ⟨0, sumF (pc_c h p w) N, sumF (pc_m h p w) N, h, am_set h 64 3 0, .v fun d L xs o g Q T hq => sm_49 (am_iff a1 (am_ift a2 (am_iff a3 (am_iff a4 (lp_49 hN e1 N 0 (by omega) hq))))), fun d L xs o g Q T hq => sm_156 (am_iff a1 (am_iff n2 (am_iff a3 (am_iff a4 (lp_156 (h := am_set h 64 3 0) hN e2 N 0 (by omega) hq))))), hI, rfl, fun _ => es.symm, by decide⟩
