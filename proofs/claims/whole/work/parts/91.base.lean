/-! ===== runs whose end is only described; the rows that the rest takes ===== -/
/-- the run from here returns w and leaves h1, of which P holds -/
def mx (k mi pc : Nat) (lv : am_V) (st : List Value) (h : am_M) (P : Option Value → am_M → Prop) : Prop := ∃ (w : Option Value) (h1 : am_M), P w h1 ∧ ∀ (d L : Nat) (xs : Nat → Int32) (o : am_L) (g : Nat) (Q : Option Value → am_M → am_L → Nat → Prop) (T : Nat → am_M → am_L → Nat → Prop), Q w h1 o g → am_X L xs (d + k) mi pc lv st am_C0 h o g Q T
theorem mx.go {k mi pc pc' : Nat} {lv lv' : am_V} {st st' : List Value} {h h' : am_M} {P : Option Value → am_M → Prop} (H : mx k mi pc' lv' st' h' P) (F : ∀ (d L : Nat) (xs : Nat → Int32) (o : am_L) (g : Nat) (Q : Option Value → am_M → am_L → Nat → Prop) (T : Nat → am_M → am_L → Nat → Prop), am_X L xs (d + k) mi pc' lv' st' am_C0 h' o g Q T → am_X L xs (d + k) mi pc lv st am_C0 h o g Q T) : mx k mi pc lv st h P := by
  obtain ⟨w, h1, hp, G⟩ := H
  exact ⟨w, h1, hp, fun d L xs o g Q T hq => F d L xs o g Q T (G d L xs o g Q T hq)⟩
theorem mx.end {k mi pc : Nat} {lv : am_V} {st : List Value} {h : am_M} {P : Option Value → am_M → Prop} (w : Option Value) (h1 : am_M) (hp : P w h1) (F : ∀ (d L : Nat) (xs : Nat → Int32) (o : am_L) (g : Nat) (Q : Option Value → am_M → am_L → Nat → Prop) (T : Nat → am_M → am_L → Nat → Prop), Q w h1 o g → am_X L xs (d + k) mi pc lv st am_C0 h o g Q T) : mx k mi pc lv st h P := ⟨w, h1, hp, F⟩
theorem mx.mono {k mi pc : Nat} {lv : am_V} {st : List Value} {h : am_M} {P P' : Option Value → am_M → Prop} (H : mx k mi pc lv st h P) (F : ∀ w h1, P w h1 → P' w h1) : mx k mi pc lv st h P' := by
  obtain ⟨w, h1, hp, G⟩ := H
  exact ⟨w, h1, F _ _ hp, G⟩
theorem mx.more {k mi pc : Nat} {lv : am_V} {st : List Value} {h : am_M} {P : Option Value → am_M → Prop} (H : mx k mi pc lv st h P) (j : Nat) : mx (k + j) mi pc lv st h P := by
  obtain ⟨w, h1, hp, G⟩ := H
  refine ⟨w, h1, hp, fun d L xs o g Q T hq => ?_⟩
  have := G (d + j) L xs o g Q T hq
  rw [show d + j + k = d + (k + j) by omega] at this
  exact this
/-- a method as such a run, and back -/
theorem mx.mv {k mi : Nat} {lv : am_V} {h : am_M} {P : Option Value → am_M → Prop} (H : mx k mi 0 lv [] h P) : ∃ w h1, P w h1 ∧ mv k mi lv h w h1 := by
  obtain ⟨w, h1, hp, G⟩ := H
  exact ⟨w, h1, hp, G⟩
theorem mv.mx {k mi : Nat} {lv : am_V} {h : am_M} {w : Option Value} {h1 : am_M} {P : Option Value → am_M → Prop} (H : mv k mi lv h w h1) (hp : P w h1) : mx k mi 0 lv [] h P := ⟨w, h1, hp, H⟩
/-! ===== what the invariant says of a ship, a berth ===== -/
theorem Iv.sh {h : am_M} (hI : Iv h) {s : Int32} (h0 : ¬ s < 0) (h1 : s < h 3 0) : iv_S h s.toNatClampNeg ∧ am_ix s 5 ∧ am_ix s 10 ∧ s.toNatClampNeg < 5 := by
  have ia := iv_at h0 h1 hI.2.1.2.1.2.1
  exact ⟨hI.2.1.2.2.1 _ ia.1 ia.2.1, ia.2.2.1, ia.2.2.2, ia.1⟩
theorem Iv.be {h : am_M} (hI : Iv h) {b : Int32} (h0 : ¬ b < 0) (h1 : b < h 3 2) : iv_B h b.toNatClampNeg ∧ am_ix b 5 ∧ am_ix b 10 ∧ b.toNatClampNeg < 5 := by
  have ia := iv_at h0 h1 hI.2.1.2.1.2.2.2.2.2.1
  exact ⟨hI.2.1.2.2.2 _ ia.1 ia.2.1, ia.2.2.1, ia.2.2.2, ia.1⟩
/-- how long a ship stays, as a number -/
theorem Iv.st {h : am_M} {j : Nat} (hS : iv_S h j) : ∃ n, 1 ≤ n ∧ n ≤ 12 ∧ h 7 j = Int32.ofNat n ∧ (h 7 j).toNatClampNeg = n := by
  obtain ⟨⟨r1, r2, r3, r4, r5⟩, r6, r7, r8, r9, r10, r11, r12, r13, r14⟩ := hS
  rw [nz_lt] at r11 r12
  have c1 : (1 : Int32).toInt = 1 := rfl
  have c12 : (12 : Int32).toInt = 12 := rfl
  exact ⟨(h 7 j).toNatClampNeg, by rw [nz_cn]; omega, by rw [nz_cn]; omega, nz_of (by omega), rfl⟩
/-- what a person knows of a ship, and what it needs by that -/
def spK (h : am_M) (p s but : Int32) (M : Nat) : Int32 × Int32 := spn (tk_kn h p s but) (h 27) (h 28) (h 4 s.toNatClampNeg, h 5 s.toNatClampNeg) M
def neK (h : am_M) (p s but : Int32) (M : Nat) : Int32 := ned (spK h p s but M) (h 8 s.toNatClampNeg) (h 30 s.toNatClampNeg) (h 12 1)
/-- the least water of a ship's stay -/
def wtr (h : am_M) (s b x day : Int32) : Int32 := lwt (h 9 b.toNatClampNeg) (h 10 b.toNatClampNeg) (h 11 b.toNatClampNeg) (h 12 0) x day (h 7 s.toNatClampNeg).toNatClampNeg
section
variable {h : am_M}
theorem mv_80w {p s but : Int32} {M : Nat} (q : Int32 × Int32) (hM : M ≤ 80) (hs : am_ix s 5) : mv 2 80 [some (.ref 0), some (.int p), some (.int s), some (.int (Int32.ofNat M)), some (.int but)] (wrp h 61 0 1 q) (some (.int (neK h p s but M))) (wrp h 61 0 1 (spK h p s but M)) := by
  have := mv_80 (h := wrp h 61 0 1 q) (p := p) (s := s) (but := but) hM hs
  have e : wrp (wrp h 61 0 1 q) 61 0 1 (spK h p s but M) = wrp h 61 0 1 (spK h p s but M) := wrp_w h 61 0 1 q _ (by decide)
  rw [← e]
  exact this
theorem mv_99w {p s : Int32} {N : Nat} (q : Int32 × Int32) (hN : N ≤ 80) (e1 : h 23 0 = Int32.ofNat N) (hs : am_ix s 5) : mv 2 99 [some (.ref 0), some (.int p), some (.int s)] (wrp h 61 0 1 q) none (wrp h 61 0 1 (spK h p s (-1) N)) := fun d L xs o g Q T hq => by
  refine sm_99 ?_
  rw [show (wrp h 61 0 1 q) 23 0 = Int32.ofNat N from e1]
  have e : wrp (wrp h 61 0 1 q) 61 0 1 (spK h p s (-1) N) = wrp h 61 0 1 (spK h p s (-1) N) := wrp_w h 61 0 1 q _ (by decide)
  rw [← e] at hq
  exact (mv_76 (h := wrp h 61 0 1 q) hN hs).use (sm_99_21 rfl rfl rfl hq)
theorem mv_46w {s : Int32} {N : Nat} (q : Int32 × Int32) (hN : N ≤ 80) (e1 : h 23 0 = Int32.ofNat N) (hs : am_ix s 5) : mv 3 46 [some (.ref 0), some (.int s)] (wrp h 61 0 1 q) (some (.ref 61)) (wrp h 61 0 1 (spT h s N)) := by
  have := mv_46 (h := wrp h 61 0 1 q) (s := s) hN e1 hs
  have e : wrp (wrp h 61 0 1 q) 61 0 1 (spT h s N) = wrp h 61 0 1 (spT h s N) := wrp_w h 61 0 1 q _ (by decide)
  rw [← e]
  exact this
theorem mv_60w (hI : Iv h) {s b x day : Int32} (s0 : ¬ s < 0) (s1 : s < h 3 0) (b0 : ¬ b < 0) (b1 : b < h 3 2) : mv 1 60 [some (.ref 3), some (.int b), some (.int x), some (.int (h 7 s.toNatClampNeg)), some (.int day), none, none, none] h (some (.int (wtr h s b x day))) h := by
  obtain ⟨n, n1, n2, n3, n4⟩ := Iv.st (hI.sh s0 s1).1
  have := mv_60 (h := h) (b := b) (x := x) (day := day) (n := n) (by omega) (hI.be b0 b1).2.1
  unfold wtr
  rw [n4, n3]
  exact this
/-- the model's span is the class's -/
theorem mv_172w (hI : Iv h) {p s but : Int32} {M N : Nat} (q : Int32 × Int32) (hN : N ≤ 80) (e1 : h 23 0 = Int32.ofNat N) (hM : M ≤ N) (s0 : ¬ s < 0) (s1 : s < h 3 0) : mv 1 172 [some (.ref 64), some (.int p), some (.int s), some (.int (Int32.ofNat M)), some (.int but), none] (wrp h 64 35 36 q) none (wrp h 64 35 36 (spK h p s but M)) := by
  obtain ⟨⟨⟨r1, r2, _⟩, _⟩, i5, i10, _⟩ := hI.sh s0 s1
  obtain ⟨hT, hP, ⟨N', hN', e1', e2, hE, _⟩, _⟩ := hI
  have en : N' = N := by rw [e1'] at e1; exact (nz_inj (by omega) (by omega)).1 e1
  subst en
  have H := mv_172 (h := wrp h 64 35 36 q) (p := p) (s := s) (but := but) (N := M) (by omega) i10
  have k : spn (tk_ms h p s but) (h 85) (h 87) (h 69 s.toNatClampNeg, h 70 s.toNatClampNeg) M = spK h p s but M := by
    rw [sp_kn hE hM, ← r1, ← r2]
    rfl
  have e : wrp (wrp h 64 35 36 q) 64 35 36 (spK h p s but M) = wrp h 64 35 36 (spK h p s but M) := wrp_w h 64 35 36 q _ (by decide)
  rw [← e, ← k]
  exact H
theorem mv_153w (hI : Iv h) {s : Int32} {N : Nat} (q : Int32 × Int32) (hN : N ≤ 80) (e1 : h 23 0 = Int32.ofNat N) (s0 : ¬ s < 0) (s1 : s < h 3 0) : mv 1 153 [some (.ref 64), some (.int s), none] (wrp h 64 35 36 q) none (wrp h 64 35 36 (spT h s N)) := by
  obtain ⟨⟨⟨r1, r2, _⟩, _⟩, i5, i10, _⟩ := hI.sh s0 s1
  obtain ⟨hT, hP, ⟨N', hN', e1', e2, hE, _⟩, _⟩ := hI
  have en : N' = N := by rw [e1'] at e1; exact (nz_inj (by omega) (by omega)).1 e1
  subst en
  have H := mv_153 (h := wrp h 64 35 36 q) (s := s) hN e2 i10
  have k : spn (tk_mt h s) (h 85) (h 87) (h 69 s.toNatClampNeg, h 70 s.toNatClampNeg) N' = spT h s N' := by
    unfold spT
    rw [sp_mt hE (Nat.le_refl _), sp_tr hP.2.1.2.2.2.1 hE (Nat.le_refl _), ← r1, ← r2]
  have e : wrp (wrp h 64 35 36 q) 64 35 36 (spT h s N') = wrp h 64 35 36 (spT h s N') := wrp_w h 64 35 36 q _ (by decide)
  rw [← e, ← k]
  exact H
/-- isDeep, isSafe in the class's words -/
theorem mv_179w (hI : Iv h) {s b x day w : Int32} (s0 : ¬ s < 0) (s1 : s < h 3 0) (b0 : ¬ b < 0) (b1 : b < h 3 2) (x0 : ¬ x < 0) (x1 : ¬ 500 < x) (d0 : ¬ day < 0) (d1 : ¬ 9999 < day) : mv 2 179 [some (.ref 64), some (.int s), some (.int b), some (.int x), some (.int day), some (.int w), none] h (some (.int (if wtr h s b x day < w then 0 else 1))) h := by
  obtain ⟨hs, i5, i10, _⟩ := hI.sh s0 s1
  obtain ⟨⟨⟨q1, q2, q3⟩, y0, y1, y2, y3, y4, y5⟩, j5, j10, _⟩ := hI.be b0 b1
  obtain ⟨n, n1, n2, n3, n4⟩ := Iv.st hs
  have p3 := hI.2.1.1.2.2.2.1
  have t0 := hI.2.1.2.1.2.2.2.2.2.2.1
  have t1 := hI.2.1.2.1.2.2.2.2.2.2.2.1
  have H := mv_179 (h := h) (s := s) (b := b) (x := x) (day := day) (w := w) (n := n) (by omega) x0 x1 i10 j10 (by rw [← hs.1.2.2.2.1]; exact n3)
  have e : anyF (shl h b x day w) 0 n = decide (wtr h s b x day < w) := by
    show anyF (fun i => decide (wat (h 74 b.toNatClampNeg) (h 75 b.toNatClampNeg) (h 76 b.toNatClampNeg) (h 68 3) (x + Int32.ofNat i) day < w)) 0 n = _
    unfold wtr
    rw [← q1, ← q2, ← q3, p3, n4, lw_any n1 (by omega) y0 y1 t0 t1 x0 x1 y2 y3 y4 y5 d0 d1]
  rw [e] at H
  simp only [decide_eq_true_eq] at H
  exact H
theorem wtr_top (hI : Iv h) {s b x day : Int32} (s0 : ¬ s < 0) (s1 : s < h 3 0) (b0 : ¬ b < 0) (b1 : b < h 3 2) (x0 : ¬ x < 0) (x1 : ¬ 500 < x) (d0 : ¬ day < 0) (d1 : ¬ 9999 < day) : wtr h s b x day < 1000 := by
  obtain ⟨hs, i5, i10, _⟩ := hI.sh s0 s1
  obtain ⟨⟨⟨q1, q2, q3⟩, y0, y1, y2, y3, y4, y5⟩, j5, j10, _⟩ := hI.be b0 b1
  obtain ⟨n, n1, n2, n3, n4⟩ := Iv.st hs
  have t0 := hI.2.1.2.1.2.2.2.2.2.2.1
  have t1 := hI.2.1.2.1.2.2.2.2.2.2.2.1
  unfold wtr
  rw [n4]
  exact lw_top (by omega) y0 y1 t0 t1 x0 x1 y2 y3 y4 y5 d0 d1
theorem mv_177w (hI : Iv h) {s b x day : Int32} {sp : Int32 × Int32} (s0 : ¬ s < 0) (s1 : s < h 3 0) (b0 : ¬ b < 0) (b1 : b < h 3 2) (x0 : ¬ x < 0) (x1 : ¬ 500 < x) (d0 : ¬ day < 0) (d1 : ¬ 9999 < day) : mv 3 177 [some (.ref 64), some (.int s), some (.int b), some (.int x), some (.int day), some (.int (h 77 s.toNatClampNeg))] (wrp h 64 35 36 sp) (some (.int (if wtr h s b x day < ned sp (h 8 s.toNatClampNeg) (h 30 s.toNatClampNeg) (h 12 1) then 0 else 1))) (wrp h 64 35 36 sp) := by
  obtain ⟨hs, i5, i10, i⟩ := hI.sh s0 s1
  obtain ⟨⟨⟨q1, q2, q3⟩, y0, y1, y2, y3, y4, y5⟩, j5, j10, _⟩ := hI.be b0 b1
  obtain ⟨n, n1, n2, n3, n4⟩ := Iv.st hs
  have p3 := hI.2.1.1.2.2.2.1
  have p4 := hI.2.1.1.2.2.2.2.1
  have t0 := hI.2.1.2.1.2.2.2.2.2.2.1
  have t1 := hI.2.1.2.1.2.2.2.2.2.2.2.1
  have tp := wtr_top hI s0 s1 b0 b1 x0 x1 d0 d1
  have H := mv_177 (h := h) (s := s) (b := b) (x := x) (day := day) (l := h 77 s.toNatClampNeg) (n := n) (sp := sp) (by omega) x0 x1 i10 j10 (by rw [← hs.1.2.2.2.1]; exact n3)
  have hG : h 77 s.toNatClampNeg = h 30 s.toNatClampNeg := by
    obtain ⟨_, _, ⟨_, _, _, _, _, hG, _⟩, _⟩ := hI
    exact (hG _ i).1
  have e : ∀ w, anyF (shl h b x day w) 0 n = decide (wtr h s b x day < w) := fun w => by
    show anyF (fun i => decide (wat (h 74 b.toNatClampNeg) (h 75 b.toNatClampNeg) (h 76 b.toNatClampNeg) (h 68 3) (x + Int32.ofNat i) day < w)) 0 n = _
    unfold wtr
    rw [← q1, ← q2, ← q3, p3, n4, lw_any n1 (by omega) y0 y1 t0 t1 x0 x1 y2 y3 y4 y5 d0 d1]
  rw [e, p4, ← hs.1.2.2.2.2] at H
  rw [hG] at H ⊢
  have ev : (if sp.2 < sp.1 then (0 : Int32) else if decide (wtr h s b x day < sp.2 + h 8 s.toNatClampNeg * (h 30 s.toNatClampNeg / 10) + h 12 1) = true then 0 else 1) = if wtr h s b x day < ned sp (h 8 s.toNatClampNeg) (h 30 s.toNatClampNeg) (h 12 1) then 0 else 1 := by
    unfold ned
    by_cases em : sp.2 < sp.1
    · rw [if_pos em, if_pos em, if_pos tp]
    · rw [if_neg em, if_neg em]
      simp only [decide_eq_true_eq]
  rw [ev] at H
  exact H
end
