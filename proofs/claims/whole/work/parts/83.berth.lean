/-! ===== berth, safe ===== -/
/-- the model's water of an hour -/
def wat (k z s t x day : Int32) : Int32 := if k = 2 then (if k = 1 then (btm z s day + tdl t 6) + 2 else (btm z s day + tdl t 6) + 0) else if k = 1 then (btm z s day + tdl t x) + 2 else (btm z s day + tdl t x) + 0
theorem bt_b {z s n : Int32} (z0 : ¬ z < 0) (z1 : ¬ 99 < z) (s0 : ¬ s < 0) (s1 : ¬ 9 < s) (n0 : ¬ n < 0) (n1 : ¬ 9999 < n) : ¬ btm z s n < 0 ∧ ¬ 99 < btm z s n ∧ (btm z s n).toInt = if 0 < z.toInt - s.toInt * n.toInt / 10 then z.toInt - s.toInt * n.toInt / 10 else 0 := by
  rw [nz_lt] at z0 z1 s0 s1 n0 n1
  have c0 : (0 : Int32).toInt = 0 := rfl
  have c99 : (99 : Int32).toInt = 99 := rfl
  have c9 : (9 : Int32).toInt = 9 := rfl
  have c4 : (9999 : Int32).toInt = 9999 := rfl
  have c10 : (10 : Int32).toInt = 10 := rfl
  have m0 : 0 ≤ s.toInt * n.toInt := Int.mul_nonneg (by omega) (by omega)
  have m1 : s.toInt * n.toInt ≤ 9 * 9999 := Int.mul_le_mul (by omega) (by omega) (by omega) (by omega)
  have d1 : (s * n).toInt = s.toInt * n.toInt := nz_mul (by omega) (by omega)
  have d2 : (s * n / 10).toInt = s.toInt * n.toInt / 10 := by rw [nz_div (by rw [d1]; omega) (by rw [c10]; decide), d1, c10]
  have d3 : (z - s * n / 10).toInt = z.toInt - s.toInt * n.toInt / 10 := by rw [nz_sub (by rw [d2]; omega) (by rw [d2]; omega), d2]
  have e : (btm z s n).toInt = if 0 < z.toInt - s.toInt * n.toInt / 10 then z.toInt - s.toInt * n.toInt / 10 else 0 := by
    unfold btm
    by_cases hc : 0 < z - s * n / 10
    · rw [if_pos hc, d3, if_pos (by rw [nz_lt, d3, c0] at hc; exact hc)]
    · rw [if_neg hc, c0, if_neg (by rw [nz_lt, d3, c0] at hc; exact hc)]
  refine ⟨?_, ?_, e⟩
  · rw [nz_lt, e, c0]; split <;> omega
  · rw [nz_lt, e, c99]; split <;> omega
theorem mn_b {t x : Int32} (t0 : ¬ t < 0) (t1 : ¬ 40 < t) (x0 : ¬ x < 0) (x1 : ¬ 500 < x) : ∀ n, n ≤ 100 → (¬ mnT t x n < 0 ∧ ¬ 40 < mnT t x n) ∧ (∀ i, i < n → ¬ tdl t (x + Int32.ofNat i) < mnT t x n) ∧ (1 ≤ n → ∃ i, i < n ∧ mnT t x n = tdl t (x + Int32.ofNat i)) := by
  intro n
  induction n with
  | zero =>
    intro _
    have := td_b (x := 6) t0 t1 (by decide) (by decide)
    exact ⟨⟨this.1, this.2.1⟩, fun i hi => by omega, fun h => by omega⟩
  | succ n ih =>
    intro hn
    obtain ⟨⟨a1, a2⟩, a3, a4⟩ := ih (by omega)
    have hx : ¬ x + Int32.ofNat n < 0 ∧ ¬ 1000 < x + Int32.ofNat n := by
      have b0 : ¬ Int32.ofNat n < 0 := by rw [nz_lt, nz_n n (by omega)]; have : (0 : Int32).toInt = 0 := rfl; omega
      have b1 : ¬ 100 < Int32.ofNat n := by rw [nz_lt, nz_n n (by omega)]; have : (100 : Int32).toInt = 100 := rfl; omega
      generalize Int32.ofNat n = w at b0 b1
      constructor <;> grind
    have tb := td_b t0 t1 hx.1 hx.2
    simp only [mnT]
    by_cases hc : tdl t (x + Int32.ofNat n) < mnT t x n
    · rw [if_pos hc]
      refine ⟨⟨tb.1, tb.2.1⟩, fun i hi => ?_, fun _ => ⟨n, by omega, rfl⟩⟩
      by_cases e : i = n
      · subst e; grind
      · have := a3 i (by omega); grind
    · rw [if_neg hc]
      refine ⟨⟨a1, a2⟩, fun i hi => ?_, fun _ => ?_⟩
      · by_cases e : i = n
        · subst e; exact hc
        · exact a3 i (by omega)
      · cases n with
        | zero => exact ⟨0, by omega, by simp only [mnT] at hc ⊢; have := tb.2.2; grind⟩
        | succ n => obtain ⟨i, hi, e⟩ := a4 (by omega); exact ⟨i, by omega, e⟩
/-- too little water in an hour: the least is too little -/
theorem lw_any {k z s t x day w : Int32} {n : Nat} (hn : 1 ≤ n) (hn1 : n ≤ 100) (k0 : ¬ k < 0) (k2 : ¬ 2 < k) (t0 : ¬ t < 0) (t1 : ¬ 40 < t) (x0 : ¬ x < 0) (x1 : ¬ 500 < x) (z0 : ¬ z < 0) (z1 : ¬ 99 < z) (s0 : ¬ s < 0) (s1 : ¬ 9 < s) (n0 : ¬ day < 0) (n1 : ¬ 9999 < day) : anyF (fun i => decide (wat k z s t (x + Int32.ofNat i) day < w)) 0 n = decide (lwt k z s t x day n < w) := by
  have an : ∀ (f : Nat → Bool) m j, anyF f j m = true ↔ ∃ i, j ≤ i ∧ i < j + m ∧ f i = true := by
    intro f m
    induction m with
    | zero => intro j; simp only [anyF]; constructor
              · intro h; cases h
              · rintro ⟨i, a, b, _⟩; omega
    | succ m ih =>
      intro j
      simp only [anyF, Bool.or_eq_true, ih]
      constructor
      · rintro (h | ⟨i, a, b, c⟩)
        · exact ⟨j, by omega, by omega, h⟩
        · exact ⟨i, by omega, by omega, c⟩
      · rintro ⟨i, a, b, c⟩
        by_cases e : i = j
        · subst e; exact .inl c
        · exact .inr ⟨i, by omega, by omega, c⟩
  rw [Bool.eq_iff_iff, an, decide_eq_true_eq]
  have bb := bt_b z0 z1 s0 s1 n0 n1
  have t6 := td_b (x := 6) t0 t1 (by decide) (by decide)
  obtain ⟨⟨m1, m2⟩, m3, m4⟩ := mn_b t0 t1 x0 x1 n hn1
  have b1 := bb.1
  have b2 := bb.2.1
  unfold wat lwt
  generalize btm z s day = B at b1 b2
  by_cases c2 : k = 2
  · have c1 : ¬ k = 1 := by subst c2; decide
    simp only [if_pos c2, if_neg c1, decide_eq_true_eq]
    constructor
    · rintro ⟨i, _, _, h⟩; grind
    · intro h; exact ⟨0, by omega, by omega, by grind⟩
  · simp only [if_neg c2]
    have hx : ∀ i, i < n → ¬ tdl t (x + Int32.ofNat i) < 0 ∧ ¬ 40 < tdl t (x + Int32.ofNat i) := by
      intro i hi
      have b0 : ¬ Int32.ofNat i < 0 := by rw [nz_lt, nz_n i (by omega)]; have : (0 : Int32).toInt = 0 := rfl; omega
      have b1 : ¬ 100 < Int32.ofNat i := by rw [nz_lt, nz_n i (by omega)]; have : (100 : Int32).toInt = 100 := rfl; omega
      generalize Int32.ofNat i = w at b0 b1
      have := td_b (x := x + w) t0 t1 (by grind) (by grind)
      exact ⟨this.1, this.2.1⟩
    by_cases c1 : k = 1
    · simp only [if_pos c1, decide_eq_true_eq]
      constructor
      · rintro ⟨i, _, hi, h⟩
        have a := m3 i (by omega)
        have b := hx i (by omega)
        grind
      · intro h
        obtain ⟨i, hi, e⟩ := m4 hn
        refine ⟨i, by omega, by omega, ?_⟩
        rw [← e]; exact h
    · simp only [if_neg c1, decide_eq_true_eq]
      constructor
      · rintro ⟨i, _, hi, h⟩
        have a := m3 i (by omega)
        have b := hx i (by omega)
        grind
      · intro h
        obtain ⟨i, hi, e⟩ := m4 hn
        refine ⟨i, by omega, by omega, ?_⟩
        rw [← e]; exact h
theorem lw_one {k z s t x day : Int32} (k0 : ¬ k < 0) (k2 : ¬ 2 < k) (t0 : ¬ t < 0) (t1 : ¬ 40 < t) (x0 : ¬ x < 0) (x1 : ¬ 500 < x) : lwt k z s t x day 1 = wat k z s t x day := by
  have hm : mnT t x 1 = tdl t x := by
    obtain ⟨_, _, m4⟩ := mn_b t0 t1 x0 x1 1 (by decide)
    obtain ⟨i, hi, e⟩ := m4 (by decide)
    have : i = 0 := by omega
    subst this
    rw [e]
    congr 1
    grind
  unfold lwt wat
  rw [hm]
  by_cases c2 : k = 2
  · have c1 : ¬ k = 1 := by subst c2; decide
    rw [if_pos c2, if_pos c2, if_neg c1]
    grind
  · rw [if_neg c2, if_neg c2]
theorem op_berth {h : am_M} (hI : Iv h) (b x n : Int32) : opR 56 [some (.ref 0), some (.int b), some (.int x), some (.int n)] 159 [some (.ref 64), some (.int b), some (.int x), some (.int n)] cdN h := by
  have hI' := hI
  obtain ⟨hT, hP, ⟨N, hN, e1, e2, hE, hG, hJ, hS⟩, hII, hR, hK⟩ := hI'
  obtain ⟨p0, p1, p2, p3, p4, p5, p6⟩ := hP.1
  obtain ⟨b0, b1, b2, b3, b4, b5, b6, b7, b8, b9, b10, b11, b12, b13⟩ := hP.2.1
  have b3' : ¬ 5 < h 3 1 := by grind
  by_cases a1 : b < 0
  · exact op_fail hI (fun d L xs o g Q T hq => sm_56 (am_ift a1 (hq))) (fun d L xs o g Q T hq => sm_159 (am_ift a1 (hq)))
  by_cases a2 : b < h 3 2
  rotate_left
  · have n2 : h 68 2 - 1 < b := by rw [p2]; exact rq5n b4 b5 a2
    exact op_fail hI (fun d L xs o g Q T hq => sm_56 (am_iff a1 (am_iff a2 (hq)))) (fun d L xs o g Q T hq => sm_159 (am_iff a1 (am_ift n2 (hq))))
  have n2 : ¬ h 68 2 - 1 < b := by rw [p2]; exact rq5 b4 b5 a2
  by_cases a3 : x < 0
  · exact op_fail hI (fun d L xs o g Q T hq => sm_56 (am_iff a1 (am_ift a2 (am_ift a3 (hq))))) (fun d L xs o g Q T hq => sm_159 (am_iff a1 (am_iff n2 (am_ift a3 (hq)))))
  by_cases a4 : 99 < x
  · exact op_fail hI (fun d L xs o g Q T hq => sm_56 (am_iff a1 (am_ift a2 (am_iff a3 (am_ift a4 (hq)))))) (fun d L xs o g Q T hq => sm_159 (am_iff a1 (am_iff n2 (am_iff a3 (am_ift a4 (hq))))))
  by_cases a5 : n < 0
  · exact op_fail hI (fun d L xs o g Q T hq => sm_56 (am_iff a1 (am_ift a2 (am_iff a3 (am_iff a4 (am_ift a5 (hq))))))) (fun d L xs o g Q T hq => sm_159 (am_iff a1 (am_iff n2 (am_iff a3 (am_iff a4 (am_ift a5 (hq)))))))
  by_cases a6 : 9999 < n
  · exact op_fail hI (fun d L xs o g Q T hq => sm_56 (am_iff a1 (am_ift a2 (am_iff a3 (am_iff a4 (am_iff a5 (am_ift a6 (hq)))))))) (fun d L xs o g Q T hq => sm_159 (am_iff a1 (am_iff n2 (am_iff a3 (am_iff a4 (am_iff a5 (am_ift a6 (hq))))))))
  have ia := iv_at a1 a2 b5
  obtain ⟨⟨q1, q2, q3⟩, y0, y1, y2, y3, y4, y5⟩ := hP.2.2.2 _ ia.1 ia.2.1
  have H1 := mv_60 (h := h) (b := b) (x := x) (day := n) (n := 1) (by decide) ia.2.2.1
  have ew := lw_one (z := h 10 b.toNatClampNeg) (s := h 11 b.toNatClampNeg) (day := n) y0 y1 b6 b7 a3 (show ¬ 500 < x by grind)
  have A : mv 50 56 [some (.ref 0), some (.int b), some (.int x), some (.int n)] h (some (.int (lwt (h 9 b.toNatClampNeg) (h 10 b.toNatClampNeg) (h 11 b.toNatClampNeg) (h 12 0) x n 1))) h := fun d L xs o g Q T hq => sm_56 (am_iff a1 (am_ift a2 (am_iff a3 (am_iff a4 (am_iff a5 (am_iff a6 (H1.use (sm_56_26 rfl rfl rfl rfl hq))))))))
  have B : mv 50 159 [some (.ref 64), some (.int b), some (.int x), some (.int n)] h (some (.int (wat (h 74 b.toNatClampNeg) (h 75 b.toNatClampNeg) (h 76 b.toNatClampNeg) (h 68 3) x n))) (am_set h 64 3 0) := fun d L xs o g Q T hq => sm_159 (am_iff a1 (am_iff n2 (am_iff a3 (am_iff a4 (am_iff a5 (am_iff a6 (⟨ia.2.2.2, by
    unfold wat at hq
    by_cases c2 : h 74 b.toNatClampNeg = 2
    · rw [if_pos c2] at hq
      refine am_ift c2 ?_
      by_cases c1 : h 74 b.toNatClampNeg = 1
      · rw [if_pos c1] at hq; exact am_ift c1 hq
      · rw [if_neg c1] at hq; exact am_iff c1 hq
    · rw [if_neg c2] at hq
      refine am_iff c2 ?_
      by_cases c1 : h 74 b.toNatClampNeg = 1
      · rw [if_pos c1] at hq; exact am_ift c1 hq
      · rw [if_neg c1] at hq; exact am_iff c1 hq⟩)))))))
  refine ⟨0, _, _, h, am_set h 64 3 0, .v A, B, hI, rfl, fun _ => ?_, by decide⟩
  rw [ew, ← q1, ← q2, ← q3, p3]
