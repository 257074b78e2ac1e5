/-! ===== aground ===== -/
def flW (keel D T : Int32) : Bool := if keel < D then decide (¬ T = 0) else decide (¬ T = 1)
def culF (f : Nat → Bool) (B : Nat → Int32) : Nat → Nat → Int32 → Int32
  | _, 0, c => c
  | k, m + 1, c => culF f B (k + 1) m (if f k = true then (if c = -1 then B k else if B k < c then B k else c) else c)
theorem culF_congr {f f' : Nat → Bool} {B B' : Nat → Int32} : ∀ m k c, (∀ j, k ≤ j → j < k + m → f j = f' j ∧ (f j = true → B j = B' j)) → culF f B k m c = culF f' B' k m c
  | 0, _, _, _ => rfl
  | m + 1, k, c, h => by
    simp only [culF]
    obtain ⟨a, b⟩ := h k (by omega) (by omega)
    rw [← a]
    by_cases e : f k = true
    · simp only [if_pos e, b e]
      exact culF_congr m (k + 1) _ (fun j h1 h2 => h j (by omega) (by omega))
    · simp only [if_neg e]
      exact culF_congr m (k + 1) _ (fun j h1 h2 => h j (by omega) (by omega))
/-- a word sold to p, false by the keel, without which it isn't safe -/
def fcl (h : am_M) (p s keel W : Int32) (M k : Nat) : Bool := decide (¬ h 25 k = -1) && (decide (h 24 k = p) && (decide (h 26 k = s) && (flW keel (h 27 k) (h 28 k) && decide (W < neK h p s (Int32.ofNat k) M))))
def fml (h : am_M) (p s keel W : Int32) (M k : Nat) : Bool := decide (h 83 k = p) && (decide (h 84 k = s) && (flW keel (h 85 k) (h 87 k) && decide (W < neK h p s (Int32.ofNat k) M)))
def agV (c : Int32) : Int32 := if c = -1 then 2 else 10 + c
section
variable {h : am_M}
theorem lp_116 {p s keel W : Int32} {M : Nat} (hM : M ≤ 80) (hs : am_ix s 5) : ∀ (m k : Nat) (c : Int32) (q8 : Option Value) (q : Int32 × Int32), am_nl q8 = true → k + m = M → mx 3 116 6 [some (.ref 0), some (.int p), some (.int s), some (.int keel), some (.int (Int32.ofNat M)), some (.int W), some (.int c), some (.int (Int32.ofNat k)), q8] [] (wrp h 61 0 1 q) (fun w h1 => w = some (.int (culF (fcl h p s keel W M) (h 25) k m c)) ∧ ∃ q', h1 = wrp h 61 0 1 q') := by
  intro m
  induction m with
  | zero =>
    intro k c q8 q hq8 hk
    exact .end _ _ ⟨rfl, q, rfl⟩ fun d L xs o g Q T hq => sm_116_6 hq8 (am_iff (by rw [nz_nlt (by omega) (by omega)]; omega) hq)
  | succ m ih =>
    intro k c q8 q hq8 hk
    have ix : am_ix (Int32.ofNat k) 80 := ix_n (by omega) (by decide)
    have lt : Int32.ofNat k < Int32.ofNat M := by rw [nz_nlt (by omega) (by omega)]; omega
    have kc : (Int32.ofNat k).toNatClampNeg = k := nz_c k (by omega)
    have H8 := mv_80w (h := h) (p := p) (s := s) (but := Int32.ofNat k) (M := M) q hM hs
    -- an event that is passed over
    have pass : fcl h p s keel W M k = false → mx 3 116 6 [some (.ref 0), some (.int p), some (.int s), some (.int keel), some (.int (Int32.ofNat M)), some (.int W), some (.int c), some (.int (Int32.ofNat k + 1)), q8] [] (wrp h 61 0 1 q) (fun w h1 => w = some (.int (culF (fcl h p s keel W M) (h 25) k (m + 1) c)) ∧ ∃ q', h1 = wrp h 61 0 1 q') := fun ef => by
      have := ih (k + 1) c q8 q hq8 (by omega)
      rw [nz_succ]
      simp only [culF, ef]
      exact this
    -- one that is weighed
    have weigh : (flW keel (h 27 k) (h 28 k) = true) → ¬ h 25 k = -1 → h 24 k = p → h 26 k = s → mx 3 116 38 [some (.ref 0), some (.int p), some (.int s), some (.int keel), some (.int (Int32.ofNat M)), some (.int W), some (.int c), some (.int (Int32.ofNat k)), q8] [.int (neK h p s (Int32.ofNat k) M)] (wrp h 61 0 1 (spK h p s (Int32.ofNat k) M)) (fun w h1 => w = some (.int (culF (fcl h p s keel W M) (h 25) k (m + 1) c)) ∧ ∃ q', h1 = wrp h 61 0 1 q') := fun ew e1 e2 e3 => by
      simp only [culF, fcl, ew, e1, e2, e3]
      by_cases cw : W < neK h p s (Int32.ofNat k) M
      · simp only [cw]
        by_cases c1 : c = -1
        · have := ih (k + 1) (h 25 k) (some (.int (h 25 k))) (spK h p s (Int32.ofNat k) M) rfl (by omega)
          simp only [c1]
          refine this.go fun d L xs o g Q T hx => sm_116_38 hq8 (am_ift cw ⟨ix, am_ift rfl ?_⟩)
          rw [kc, nz_succ]
          exact hx
        · simp only [c1]
          by_cases c2 : h 25 k < c
          · have := ih (k + 1) (h 25 k) (some (.int (h 25 k))) (spK h p s (Int32.ofNat k) M) rfl (by omega)
            simp only [c2]
            refine this.go fun d L xs o g Q T hx => sm_116_38 hq8 (am_ift cw ⟨ix, am_iff c1 (by rw [kc, nz_succ]; exact am_ift c2 hx)⟩)
          · have := ih (k + 1) c (some (.int (h 25 k))) (spK h p s (Int32.ofNat k) M) rfl (by omega)
            simp only [c2]
            refine this.go fun d L xs o g Q T hx => sm_116_38 hq8 (am_ift cw ⟨ix, am_iff c1 (by rw [kc, nz_succ]; exact am_iff c2 hx)⟩)
      · have := ih (k + 1) c q8 (spK h p s (Int32.ofNat k) M) hq8 (by omega)
        simp only [cw]
        refine this.go fun d L xs o g Q T hx => sm_116_38 hq8 (am_iff cw (by rw [nz_succ]; exact hx))
    by_cases c1 : h 25 k = -1
    · exact (pass (by simp [fcl, c1])).go fun d L xs o g Q T hx => sm_116_6 hq8 (am_ift lt ⟨ix, by rw [kc]; exact am_ift c1 hx⟩)
    by_cases c2 : h 24 k = p
    rotate_left
    · exact (pass (by simp [fcl, c2])).go fun d L xs o g Q T hx => sm_116_6 hq8 (am_ift lt ⟨ix, by rw [kc]; exact am_iff c1 (am_iff c2 hx)⟩)
    by_cases c3 : h 26 k = s
    rotate_left
    · exact (pass (by simp [fcl, c3])).go fun d L xs o g Q T hx => sm_116_6 hq8 (am_ift lt ⟨ix, by rw [kc]; exact am_iff c1 (am_ift c2 (am_iff c3 hx))⟩)
    by_cases c4 : keel < h 27 k
    · by_cases c5 : h 28 k = 0
      · exact (pass (by simp [fcl, flW, c4, c5])).go fun d L xs o g Q T hx => sm_116_6 hq8 (am_ift lt ⟨ix, by rw [kc]; exact am_iff c1 (am_ift c2 (am_ift c3 (am_ift c4 (am_ift c5 hx))))⟩)
      · exact (weigh (by simp [flW, c4, c5]) c1 c2 c3).go fun d L xs o g Q T hx => sm_116_6 hq8 (am_ift lt ⟨ix, by rw [kc]; exact am_iff c1 (am_ift c2 (am_ift c3 (am_ift c4 (am_iff c5 (H8.use hx)))))⟩)
    · by_cases c5 : h 28 k = 1
      · exact (pass (by simp [fcl, flW, c4, c5])).go fun d L xs o g Q T hx => sm_116_6 hq8 (am_ift lt ⟨ix, by rw [kc]; exact am_iff c1 (am_ift c2 (am_ift c3 (am_iff c4 (am_ift c5 hx))))⟩)
      · exact (weigh (by simp [flW, c4, c5]) c1 c2 c3).go fun d L xs o g Q T hx => sm_116_6 hq8 (am_ift lt ⟨ix, by rw [kc]; exact am_iff c1 (am_ift c2 (am_ift c3 (am_iff c4 (am_iff c5 (H8.use hx)))))⟩)
theorem lp_197 (hI : Iv h) {p s b x keel : Int32} {M N : Nat} (hN : N ≤ 80) (e1 : h 23 0 = Int32.ofNat N) (hM : M ≤ N) (s0 : ¬ s < 0) (s1 : s < h 3 0) (b0 : ¬ b < 0) (b1 : b < h 3 2) (x0 : ¬ x < 0) (x1 : ¬ 500 < x) : ∀ (m k : Nat) (c : Int32) (q : Int32 × Int32), k + m = M → mx 5 197 150 [some (.ref 64), some (.int p), some (.int s), some (.int b), some (.int x), some (.int keel), some (.int (Int32.ofNat M)), some (.int c), some (.int (Int32.ofNat k))] [] (wrp h 64 35 36 q) (fun w h1 => w = some (.int (agV (culF (fml h p s keel (wtr h s b x 0) M) (h 82) k m c))) ∧ ∃ q', h1 = wrp h 64 35 36 q') := by
  have i5 := (hI.sh s0 s1).2.1
  intro m
  induction m with
  | zero =>
    intro k c q hk
    refine .end _ _ ⟨rfl, q, rfl⟩ fun d L xs o g Q T hq => sm_197_150 (am_iff (by rw [nz_nlt (by omega) (by omega)]; omega) ?_)
    simp only [culF] at hq
    unfold agV at hq
    by_cases c1 : c = -1
    · rw [if_pos c1] at hq; exact am_ift c1 hq
    · rw [if_neg c1] at hq; exact am_iff c1 hq
  | succ m ih =>
    intro k c q hk
    have ix : am_ix (Int32.ofNat k) 80 := ix_n (by omega) (by decide)
    have lt : Int32.ofNat k < Int32.ofNat M := by rw [nz_nlt (by omega) (by omega)]; omega
    have kc : (Int32.ofNat k).toNatClampNeg = k := nz_c k (by omega)
    have H1 := mv_172w hI (p := p) (but := Int32.ofNat k) q hN e1 hM s0 s1
    have H2 := mv_177w hI (day := 0) (sp := spK h p s (Int32.ofNat k) M) s0 s1 b0 b1 x0 x1 (by decide) (by decide)
    obtain ⟨F, hF⟩ : ∃ F : Int32 → Int32, ∀ c, F c = agV (culF (fml h p s keel (wtr h s b x 0) M) (h 82) (k + 1) m c) := ⟨_, fun _ => rfl⟩
    have ih' : ∀ (c : Int32) (q : Int32 × Int32), mx 5 197 150 [some (.ref 64), some (.int p), some (.int s), some (.int b), some (.int x), some (.int keel), some (.int (Int32.ofNat M)), some (.int c), some (.int (Int32.ofNat k + 1))] [] (wrp h 64 35 36 q) (fun w h1 => w = some (.int (F c)) ∧ ∃ q', h1 = wrp h 64 35 36 q') := fun c q => by
      have := ih (k + 1) c q (by omega)
      rw [nz_succ, hF]
      exact this
    clear ih
    simp only [culF]
    rw [← hF]
    have pass : fml h p s keel (wtr h s b x 0) M k = false → mx 5 197 150 [some (.ref 64), some (.int p), some (.int s), some (.int b), some (.int x), some (.int keel), some (.int (Int32.ofNat M)), some (.int c), some (.int (Int32.ofNat k + 1))] [] (wrp h 64 35 36 q) (fun w h1 => w = some (.int (F (if fml h p s keel (wtr h s b x 0) M k = true then (if c = -1 then h 82 k else if h 82 k < c then h 82 k else c) else c))) ∧ ∃ q', h1 = wrp h 64 35 36 q') := fun ef => by
      rw [if_neg (by rw [ef]; decide)]
      exact ih' c q
    have weigh : (flW keel (h 85 k) (h 87 k) = true) → h 83 k = p → h 84 k = s → mx 5 197 203 [some (.ref 64), some (.int p), some (.int s), some (.int b), some (.int x), some (.int keel), some (.int (Int32.ofNat M)), some (.int c), some (.int (Int32.ofNat k))] [] (wrp h 64 35 36 (spK h p s (Int32.ofNat k) M)) (fun w h1 => w = some (.int (F (if fml h p s keel (wtr h s b x 0) M k = true then (if c = -1 then h 82 k else if h 82 k < c then h 82 k else c) else c))) ∧ ∃ q', h1 = wrp h 64 35 36 q') := fun ew e2 e3 => by
      have ef : fml h p s keel (wtr h s b x 0) M k = decide (wtr h s b x 0 < neK h p s (Int32.ofNat k) M) := by simp [fml, ew, e2, e3]
      rw [ef]
      simp only [decide_eq_true_eq]
      by_cases cw : wtr h s b x 0 < neK h p s (Int32.ofNat k) M
      · rw [if_pos (show wtr h s b x 0 < ned (spK h p s (Int32.ofNat k) M) (h 8 s.toNatClampNeg) (h 30 s.toNatClampNeg) (h 12 1) from cw)] at H2
        rw [if_pos cw]
        by_cases c1 : c = -1
        · rw [if_pos c1]
          exact (ih' (h 82 k) _).go fun d L xs o g Q T hx => sm_197_203 ⟨i5, H2.use (sm_197_218 (am_ift rfl (am_ift c1 ⟨ix, by rw [kc]; exact hx⟩)))⟩
        · rw [if_neg c1]
          by_cases c2 : h 82 k < c
          · rw [if_pos c2]
            exact (ih' (h 82 k) _).go fun d L xs o g Q T hx => sm_197_203 ⟨i5, H2.use (sm_197_218 (am_ift rfl (am_iff c1 ⟨ix, by rw [kc]; exact am_ift c2 hx⟩)))⟩
          · rw [if_neg c2]
            exact (ih' c _).go fun d L xs o g Q T hx => sm_197_203 ⟨i5, H2.use (sm_197_218 (am_ift rfl (am_iff c1 ⟨ix, by rw [kc]; exact am_iff c2 hx⟩)))⟩
      · rw [if_neg (show ¬ wtr h s b x 0 < ned (spK h p s (Int32.ofNat k) M) (h 8 s.toNatClampNeg) (h 30 s.toNatClampNeg) (h 12 1) from cw)] at H2
        rw [if_neg cw]
        exact (ih' c _).go fun d L xs o g Q T hx => sm_197_203 ⟨i5, H2.use (sm_197_218 (am_iff (by decide) hx))⟩
    by_cases c2 : h 83 k = p
    rotate_left
    · exact (pass (by simp [fml, c2])).go fun d L xs o g Q T hx => sm_197_150 (am_ift lt ⟨ix, by rw [kc]; exact am_iff c2 hx⟩)
    by_cases c3 : h 84 k = s
    rotate_left
    · exact (pass (by simp [fml, c3])).go fun d L xs o g Q T hx => sm_197_150 (am_ift lt ⟨ix, by rw [kc]; exact am_ift c2 (am_iff c3 hx)⟩)
    by_cases c4 : keel < h 85 k
    · by_cases c5 : h 87 k = 0
      · exact (pass (by simp [fml, flW, c4, c5])).go fun d L xs o g Q T hx => sm_197_150 (am_ift lt ⟨ix, by rw [kc]; exact am_ift c2 (am_ift c3 (am_ift c4 (am_ift c5 hx)))⟩)
      · exact (weigh (by simp [flW, c4, c5]) c2 c3).go fun d L xs o g Q T hx => sm_197_150 (am_ift lt ⟨ix, by rw [kc]; exact am_ift c2 (am_ift c3 (am_ift c4 (am_iff c5 (H1.use hx))))⟩)
    · by_cases c5 : h 87 k = 1
      · exact (pass (by simp [fml, flW, c4, c5])).go fun d L xs o g Q T hx => sm_197_150 (am_ift lt ⟨ix, by rw [kc]; exact am_ift c2 (am_ift c3 (am_iff c4 (am_ift c5 hx)))⟩)
      · exact (weigh (by simp [flW, c4, c5]) c2 c3).go fun d L xs o g Q T hx => sm_197_150 (am_ift lt ⟨ix, by rw [kc]; exact am_ift c2 (am_ift c3 (am_iff c4 (am_iff c5 (H1.use hx))))⟩)
end
theorem f_eq {h : am_M} {p s keel W : Int32} {M N : Nat} (hE : ∀ j, j < N → iv_E (h 3 1) (h 3 0) (h 12 3) (h 24) (h 25) (h 26) (h 27) (h 28) (h 29) (h 82) (h 83) (h 84) (h 85) (h 87) (h 86) j) (hM : M ≤ N) (p0 : ¬ p < 0) (c : Int32) : culF (fml h p s keel W M) (h 82) 0 M c = culF (fcl h p s keel W M) (h 25) 0 M c := by
  apply culF_congr
  intro k _ hk
  obtain ⟨⟨u1, u2, u3, u4, u5, u6, u7⟩, ⟨c1, c2, c3⟩, hd⟩ := hE k (by omega)
  unfold fml fcl
  rw [c1, c2, c3]
  rcases hd with ⟨d1, d2, d3, d4⟩ | ⟨d1, d2, d3, d4, d5⟩
  · have np : ¬ (-1 : Int32) = p := by grind
    rw [d1, d2]
    simp [np]
  · have nb : ¬ h 25 k = -1 := by grind
    rw [d3, d4]
    simp [nb]
theorem op_aground {h : am_M} (hI : Iv h) (p s b x y t : Int32) : opR 114 [some (.ref 0), some (.int p), some (.int s), some (.int b), some (.int x), some (.int y), some (.int t), none, none] 197 [some (.ref 64), some (.int p), some (.int s), some (.int b), some (.int x), some (.int y), some (.int t), none, none] cdN h := by
  have hI' := hI
  obtain ⟨hT, hP, ⟨N, hN, e1, e2, hE, hG, hJ, hS⟩, hII, hR, hK⟩ := hI'
  obtain ⟨p0, p1, p2, p3, p4, p5, p6⟩ := hP.1
  obtain ⟨b0, b1, b2, b3, b4, b5, b6, b7, b8, b9, b10, b11, b12, b13⟩ := hP.2.1
  have b3' : ¬ 5 < h 3 1 := by grind
  by_cases a1 : p < 0
  · exact op_fail hI (fun d L xs o g Q T hq => sm_114 (am_ift a1 (hq))) (fun d L xs o g Q T hq => sm_197 (am_ift a1 (hq)))
  by_cases a2 : p < h 3 1
  rotate_left
  · have n2 : h 68 1 - 1 < p := by rw [p1]; exact rq5n b2 b3' a2
    exact op_fail hI (fun d L xs o g Q T hq => sm_114 (am_iff a1 (am_iff a2 (hq)))) (fun d L xs o g Q T hq => sm_197 (am_iff a1 (am_ift n2 (hq))))
  have n2 : ¬ h 68 1 - 1 < p := by rw [p1]; exact rq5 b2 b3' a2
  by_cases a3 : s < 0
  · exact op_fail hI (fun d L xs o g Q T hq => sm_114 (am_iff a1 (am_ift a2 (am_ift a3 (hq))))) (fun d L xs o g Q T hq => sm_197 (am_iff a1 (am_iff n2 (am_ift a3 (hq)))))
  by_cases a4 : s < h 3 0
  rotate_left
  · have n4 : h 68 0 - 1 < s := by rw [p0]; exact rq5n b0 b1 a4
    exact op_fail hI (fun d L xs o g Q T hq => sm_114 (am_iff a1 (am_ift a2 (am_iff a3 (am_iff a4 (hq)))))) (fun d L xs o g Q T hq => sm_197 (am_iff a1 (am_iff n2 (am_iff a3 (am_ift n4 (hq))))))
  have n4 : ¬ h 68 0 - 1 < s := by rw [p0]; exact rq5 b0 b1 a4
  by_cases a5 : b < 0
  · exact op_fail hI (fun d L xs o g Q T hq => sm_114 (am_iff a1 (am_ift a2 (am_iff a3 (am_ift a4 (am_ift a5 (hq))))))) (fun d L xs o g Q T hq => sm_197 (am_iff a1 (am_iff n2 (am_iff a3 (am_iff n4 (am_ift a5 (hq)))))))
  by_cases a6 : b < h 3 2
  rotate_left
  · have n6 : h 68 2 - 1 < b := by rw [p2]; exact rq5n b4 b5 a6
    exact op_fail hI (fun d L xs o g Q T hq => sm_114 (am_iff a1 (am_ift a2 (am_iff a3 (am_ift a4 (am_iff a5 (am_iff a6 (hq)))))))) (fun d L xs o g Q T hq => sm_197 (am_iff a1 (am_iff n2 (am_iff a3 (am_iff n4 (am_iff a5 (am_ift n6 (hq))))))))
  have n6 : ¬ h 68 2 - 1 < b := by rw [p2]; exact rq5 b4 b5 a6
  by_cases a7 : x < 0
  · exact op_fail hI (fun d L xs o g Q T hq => sm_114 (am_iff a1 (am_ift a2 (am_iff a3 (am_ift a4 (am_iff a5 (am_ift a6 (am_ift a7 (hq))))))))) (fun d L xs o g Q T hq => sm_197 (am_iff a1 (am_iff n2 (am_iff a3 (am_iff n4 (am_iff a5 (am_iff n6 (am_ift a7 (hq)))))))))
  by_cases a8 : 99 < x
  · exact op_fail hI (fun d L xs o g Q T hq => sm_114 (am_iff a1 (am_ift a2 (am_iff a3 (am_ift a4 (am_iff a5 (am_ift a6 (am_iff a7 (am_ift a8 (hq)))))))))) (fun d L xs o g Q T hq => sm_197 (am_iff a1 (am_iff n2 (am_iff a3 (am_iff n4 (am_iff a5 (am_iff n6 (am_iff a7 (am_ift a8 (hq))))))))))
  by_cases a9 : t < 0
  · exact op_fail2 hI (fun d L xs o g Q T hq => sm_114 (am_iff a1 (am_ift a2 (am_iff a3 (am_ift a4 (am_iff a5 (am_ift a6 (am_iff a7 (am_iff a8 (am_ift a9 (hq))))))))))) (fun d L xs o g Q T hq => sm_197 (am_iff a1 (am_iff n2 (am_iff a3 (am_iff n4 (am_iff a5 (am_iff n6 (am_iff a7 (am_iff a8 (am_ift a9 (hq)))))))))))
  by_cases a10 : h 23 0 < t
  · have n10 : h 64 28 < t := by rw [e2, ← e1]; exact a10
    exact op_fail2 hI (fun d L xs o g Q T hq => sm_114 (am_iff a1 (am_ift a2 (am_iff a3 (am_ift a4 (am_iff a5 (am_ift a6 (am_iff a7 (am_iff a8 (am_iff a9 (am_ift a10 (hq)))))))))))) (fun d L xs o g Q T hq => sm_197 (am_iff a1 (am_iff n2 (am_iff a3 (am_iff n4 (am_iff a5 (am_iff n6 (am_iff a7 (am_iff a8 (am_iff a9 (am_ift n10 (hq))))))))))))
  have n10 : ¬ h 64 28 < t := by rw [e2, ← e1]; exact a10
  obtain ⟨M, hM, rfl⟩ := nat_of hN a9 (e1 ▸ a10)
  have x5 : ¬ 500 < x := by grind
  have hs := hI.sh a3 a4
  have hb := hI.be a5 a6
  have i5 := hs.2.1
  have i10 := hs.2.2.1
  have C1 := mv_46 (h := h) (s := s) hN e1 i5
  have C2 := fun q => mv_60w (h := wrp h 61 0 1 q) (hI.w61 q) (s := s) (b := b) (x := x) (day := 0) a3 a4 a5 a6
  have C3 := fun q => mv_80w (h := h) (p := p) (s := s) (but := -1) (M := M) q (by omega) i5
  have hm : ∀ q, Iv (am_set (wrp h 61 0 1 q) 64 3 0) := fun q => hI
  have M1 := fun q q' => mv_153w (h := am_set (wrp h 61 0 1 q) 64 3 0) (hm q) (s := s) q' hN e1 a3 a4
  have M2 := fun q q' w => mv_179w (h := wrp (am_set (wrp h 61 0 1 q) 64 3 0) 64 35 36 q') (hm q) (s := s) (b := b) (x := x) (day := 0) (w := w) a3 a4 a5 a6 a7 x5 (by decide) (by decide)
  have M3 := fun q q' => mv_172w (h := am_set (wrp h 61 0 1 q) 64 3 0) (hm q) (p := p) (s := s) (but := -1) q' hN e1 hM a3 a4
  have M4 := fun q sp => mv_177w (h := am_set (wrp h 61 0 1 q) 64 3 0) (hm q) (s := s) (b := b) (x := x) (day := 0) (sp := sp) a3 a4 a5 a6 a7 x5 (by decide) (by decide)
  have w0 : ∀ q, am_set (wrp h 61 0 1 q) 64 3 0 = wrp (am_set (wrp h 61 0 1 q) 64 3 0) 64 35 36 (h 64 35, h 64 36) := fun q => by
    funext k j
    simp only [wrp, as_get]
    by_cases z1 : k = 64 ∧ j = 36
    · obtain ⟨rfl, rfl⟩ := z1; rfl
    · rw [if_neg z1]
      by_cases z2 : k = 64 ∧ j = 35
      · obtain ⟨rfl, rfl⟩ := z2; rfl
      · rw [if_neg z2]
  generalize htr : spT h s N = tr at C1 M1
  have M1' : ∀ q, mv 1 153 [some (.ref 64), some (.int s), none] (am_set (wrp h 61 0 1 q) 64 3 0) none (wrp (am_set (wrp h 61 0 1 q) 64 3 0) 64 35 36 tr) := fun q => by
    have := M1 q (h 64 35, h 64 36)
    rw [← w0 q] at this
    rw [← htr]
    exact this
  -- a keel that isn't in the true span
  have none1 : (y < tr.1 ∨ tr.2 < y) → opR 114 [some (.ref 0), some (.int p), some (.int s), some (.int b), some (.int x), some (.int y), some (.int (Int32.ofNat M)), none, none] 197 [some (.ref 64), some (.int p), some (.int s), some (.int b), some (.int x), some (.int y), some (.int (Int32.ofNat M)), none, none] cdN h := fun hc => by
    refine ⟨0, -1, -1, wrp h 61 0 1 tr, wrp (am_set (wrp h 61 0 1 tr) 64 3 0) 64 35 36 tr, .v fun d L xs o g Q T hq => sm_114 (am_iff a1 (am_ift a2 (am_iff a3 (am_ift a4 (am_iff a5 (am_ift a6 (am_iff a7 (am_iff a8 (am_iff a9 (am_iff a10 (C1.use (sm_114_32 rfl rfl ?_)))))))))))), fun d L xs o g Q T hq => sm_197 (am_iff a1 (am_iff n2 (am_iff a3 (am_iff n4 (am_iff a5 (am_iff n6 (am_iff a7 (am_iff a8 (am_iff a9 (am_iff n10 ((M1' _).use (sm_197_70 rfl rfl ?_)))))))))))), hI, rfl, fun _ => rfl, by decide⟩
    · by_cases c : y < tr.1
      · exact am_ift c hq
      · exact am_iff c (am_ift (hc.resolve_left c) hq)
    · by_cases c : y < tr.1
      · exact am_ift c hq
      · exact am_iff c (am_ift (hc.resolve_left c) hq)
  by_cases k1 : y < tr.1
  · exact none1 (.inl k1)
  by_cases k2 : tr.2 < y
  · exact none1 (.inr k2)
  have kw : y + h 73 s.toNatClampNeg * (h 77 s.toNatClampNeg / 10) = y + h 8 s.toNatClampNeg * (h 30 s.toNatClampNeg / 10) := by
    rw [← hs.1.1.2.2.2.2, (hG _ hs.2.2.2).1]
  obtain ⟨W, hW⟩ : ∃ W, W = wtr h s b x 0 := ⟨_, rfl⟩
  obtain ⟨U, hU⟩ : ∃ U, U = y + h 8 s.toNatClampNeg * (h 30 s.toNatClampNeg / 10) := ⟨_, rfl⟩
  have C2' : ∀ q, mv 1 60 [some (.ref 3), some (.int b), some (.int x), some (.int ((wrp h 61 0 1 q) 7 s.toNatClampNeg)), some (.int 0), none, none, none] (wrp h 61 0 1 q) (some (.int W)) (wrp h 61 0 1 q) := fun q => by
    rw [hW]; exact C2 q
  have M2' : ∀ q q', mv 2 179 [some (.ref 64), some (.int s), some (.int b), some (.int x), some (.int 0), some (.int (y + h 73 s.toNatClampNeg * (h 77 s.toNatClampNeg / 10))), none] (wrp (am_set (wrp h 61 0 1 q) 64 3 0) 64 35 36 q') (some (.int (if W < U then 0 else 1))) (wrp (am_set (wrp h 61 0 1 q) 64 3 0) 64 35 36 q') := fun q q' => by
    rw [kw, ← hU, hW]; exact M2 q q' U
  by_cases k3 : W < U
  rotate_left
  · refine ⟨0, 0, 0, wrp h 61 0 1 tr, wrp (am_set (wrp h 61 0 1 tr) 64 3 0) 64 35 36 tr, .v fun d L xs o g Q T hq => sm_114 (am_iff a1 (am_ift a2 (am_iff a3 (am_ift a4 (am_iff a5 (am_ift a6 (am_iff a7 (am_iff a8 (am_iff a9 (am_iff a10 (C1.use (sm_114_32 rfl rfl (am_iff k1 (am_iff k2 ⟨i5, (C2' _).use (sm_114_62 rfl rfl rfl rfl ⟨i5, ?_⟩)⟩)))))))))))))), fun d L xs o g Q T hq => sm_197 (am_iff a1 (am_iff n2 (am_iff a3 (am_iff n4 (am_iff a5 (am_iff n6 (am_iff a7 (am_iff a8 (am_iff a9 (am_iff n10 ((M1' _).use (sm_197_70 rfl rfl (am_iff k1 (am_iff k2 ⟨i5, i10, (M2' _ _).use (sm_197_110 rfl rfl ?_)⟩)))))))))))))), hI, rfl, fun _ => rfl, by decide⟩
    · exact am_iff (hU ▸ k3) hq
    · exact am_iff (by rw [if_neg k3]; decide) hq
  by_cases k4 : W < neK h p s (-1) M
  · have M4' : ∀ q, mv 3 177 [some (.ref 64), some (.int s), some (.int b), some (.int x), some (.int 0), some (.int (h 77 s.toNatClampNeg))] (wrp (am_set (wrp h 61 0 1 q) 64 3 0) 64 35 36 (spK h p s (-1) M)) (some (.int 0)) (wrp (am_set (wrp h 61 0 1 q) 64 3 0) 64 35 36 (spK h p s (-1) M)) := fun q => by
      have := M4 q (spK h p s (-1) M)
      have e : (if wtr (am_set (wrp h 61 0 1 q) 64 3 0) s b x 0 < ned (spK h p s (-1) M) ((am_set (wrp h 61 0 1 q) 64 3 0) 8 s.toNatClampNeg) ((am_set (wrp h 61 0 1 q) 64 3 0) 30 s.toNatClampNeg) ((am_set (wrp h 61 0 1 q) 64 3 0) 12 1) then (0 : Int32) else 1) = 0 := if_pos (hW ▸ k4)
      rw [e] at this
      exact this
    refine ⟨0, 1, 1, wrp h 61 0 1 (spK h p s (-1) M), wrp (am_set (wrp h 61 0 1 (spK h p s (-1) M)) 64 3 0) 64 35 36 (spK h p s (-1) M), .v fun d L xs o g Q T hq => sm_114 (am_iff a1 (am_ift a2 (am_iff a3 (am_ift a4 (am_iff a5 (am_ift a6 (am_iff a7 (am_iff a8 (am_iff a9 (am_iff a10 (C1.use (sm_114_32 rfl rfl (am_iff k1 (am_iff k2 ⟨i5, (C2' _).use (sm_114_62 rfl rfl rfl rfl ⟨i5, am_ift (hU ▸ k3) ((C3 _).use (sm_114_100 rfl rfl rfl ?_))⟩)⟩)))))))))))))), fun d L xs o g Q T hq => sm_197 (am_iff a1 (am_iff n2 (am_iff a3 (am_iff n4 (am_iff a5 (am_iff n6 (am_iff a7 (am_iff a8 (am_iff a9 (am_iff n10 ((M1' _).use (sm_197_70 rfl rfl (am_iff k1 (am_iff k2 ⟨i5, i10, (M2' _ _).use (sm_197_110 rfl rfl (am_ift (if_pos k3) ((M3 _ _).use (sm_197_124 rfl rfl ?_))))⟩)))))))))))))), hI, rfl, fun _ => rfl, by decide⟩
    · exact am_ift k4 hq
    · exact ⟨i5, (M4' _).use (sm_197_139 rfl rfl (am_ift rfl hq))⟩
  have M4' : ∀ q, mv 3 177 [some (.ref 64), some (.int s), some (.int b), some (.int x), some (.int 0), some (.int (h 77 s.toNatClampNeg))] (wrp (am_set (wrp h 61 0 1 q) 64 3 0) 64 35 36 (spK h p s (-1) M)) (some (.int 1)) (wrp (am_set (wrp h 61 0 1 q) 64 3 0) 64 35 36 (spK h p s (-1) M)) := fun q => by
    have := M4 q (spK h p s (-1) M)
    have e : (if wtr (am_set (wrp h 61 0 1 q) 64 3 0) s b x 0 < ned (spK h p s (-1) M) ((am_set (wrp h 61 0 1 q) 64 3 0) 8 s.toNatClampNeg) ((am_set (wrp h 61 0 1 q) 64 3 0) 30 s.toNatClampNeg) ((am_set (wrp h 61 0 1 q) 64 3 0) 12 1) then (0 : Int32) else 1) = 1 := if_neg (hW ▸ k4)
    rw [e] at this
    exact this
  obtain ⟨w, h1, ⟨rfl, q1, rfl⟩, LC⟩ := lp_116 (h := h) (p := p) (s := s) (keel := y) (W := W) (show M ≤ 80 by omega) i5 M 0 (-1) none (spK h p s (-1) M) rfl (by omega)
  obtain ⟨w, h2, ⟨rfl, q2, rfl⟩, LM⟩ := lp_197 (h := am_set (wrp h 61 0 1 q1) 64 3 0) (hm q1) (p := p) (s := s) (b := b) (x := x) (keel := y) hN e1 hM a3 a4 a5 a6 a7 x5 M 0 (-1) (spK h p s (-1) M) (by omega)
  have fe := f_eq (h := h) (s := s) (keel := y) (W := W) hE hM a1 (-1)
  obtain ⟨cu, hcu⟩ : ∃ cu, cu = culF (fcl h p s y W M) (h 25) 0 M (-1) := ⟨_, rfl⟩
  refine ⟨0, agV cu, agV cu, wrp h 61 0 1 q1, wrp (am_set (wrp h 61 0 1 q1) 64 3 0) 64 35 36 q2, .v fun d L xs o g Q T hq => sm_114 (am_iff a1 (am_ift a2 (am_iff a3 (am_ift a4 (am_iff a5 (am_ift a6 (am_iff a7 (am_iff a8 (am_iff a9 (am_iff a10 (C1.use (sm_114_32 rfl rfl (am_iff k1 (am_iff k2 ⟨i5, (C2' _).use (sm_114_62 rfl rfl rfl rfl ⟨i5, am_ift (hU ▸ k3) ((C3 _).use (sm_114_100 rfl rfl rfl ?_))⟩)⟩)))))))))))))), fun d L xs o g Q T hq => sm_197 (am_iff a1 (am_iff n2 (am_iff a3 (am_iff n4 (am_iff a5 (am_iff n6 (am_iff a7 (am_iff a8 (am_iff a9 (am_iff n10 ((M1' _).use (sm_197_70 rfl rfl (am_iff k1 (am_iff k2 ⟨i5, i10, (M2' _ _).use (sm_197_110 rfl rfl (am_ift (if_pos k3) ((M3 _ _).use (sm_197_124 rfl rfl ?_))))⟩)))))))))))))), hI, rfl, fun _ => rfl, by decide⟩
  · refine am_iff k4 (sm_116 (LC (d + 46) L xs o g _ _ (sm_114_119 rfl rfl rfl rfl rfl rfl rfl rfl rfl ?_)))
    rw [← hcu]
    unfold agV at hq
    by_cases c : cu = -1
    · rw [if_pos c] at hq; exact am_ift c hq
    · rw [if_neg c] at hq; exact am_iff c hq
  · refine ⟨i5, (M4' _).use (sm_197_139 rfl rfl (am_iff (by decide) (LM (d + 45) L xs o g _ _ ?_)))⟩
    have : culF (fml (am_set (wrp h 61 0 1 q1) 64 3 0) p s y (wtr (am_set (wrp h 61 0 1 q1) 64 3 0) s b x 0) M) ((am_set (wrp h 61 0 1 q1) 64 3 0) 82) 0 M (-1) = cu := by
      rw [hcu, ← fe, hW]
      rfl
    rw [this]
    exact hq
