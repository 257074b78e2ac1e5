/-! ===== safe ===== -/
section
variable {L : Nat} {xs : Nat → Int32} {d : Nat} {h : am_M} {o : am_L} {g : Nat} {Q : Option Value → am_M → am_L → Nat → Prop} {T : Nat → am_M → am_L → Nat → Prop}
theorem add_sc (x : Int32) (i : Nat) : x + Int32.ofNat i + 1 = x + Int32.ofNat (i + 1) := by
  rw [Int32.add_assoc, nz_succ]
theorem add_lt {x : Int32} {i n : Nat} (x0 : ¬ x < 0) (x1 : ¬ 500 < x) (hi : i ≤ 100) (hn : n ≤ 100) : x + Int32.ofNat i < x + Int32.ofNat n ↔ i < n := by
  have e : 0 ≤ x.toInt := by rw [nz_lt] at x0; have : (0 : Int32).toInt = 0 := rfl; omega
  have e1 : x.toInt ≤ 500 := by rw [nz_lt] at x1; have : (500 : Int32).toInt = 500 := rfl; omega
  have a := nz_n i (by omega)
  have b := nz_n n (by omega)
  rw [nz_lt, nz_add (by rw [a]; omega) (by rw [a]; omega), nz_add (by rw [b]; omega) (by rw [b]; omega), a, b]
  omega
/-- too shallow in hour i -/
def shl (h : am_M) (b x day w : Int32) (i : Nat) : Bool := decide (wat (h 74 b.toNatClampNeg) (h 75 b.toNatClampNeg) (h 76 b.toNatClampNeg) (h 68 3) (x + Int32.ofNat i) day < w)
theorem lp_179 {s b x day w : Int32} {n : Nat} (hn : n ≤ 100) (x0 : ¬ x < 0) (x1 : ¬ 500 < x) (hs : am_ix s 10) (hb : am_ix b 10) (hE : h 72 s.toNatClampNeg = Int32.ofNat n) : ∀ (m k : Nat), k + m = n → Q (some (.int (if anyF (shl h b x day w) k m = true then 0 else 1))) h o g → am_X L xs (d + 2) 179 3 [some (.ref 64), some (.int s), some (.int b), some (.int x), some (.int day), some (.int w), some (.int (x + Int32.ofNat k))] [] am_C0 h o g Q T := by
  intro m
  induction m with
  | zero =>
    intro k hk hq
    refine sm_179_3 ⟨hs, ?_⟩
    rw [hE]
    exact am_iff (by rw [add_lt x0 x1 (by omega) hn]; omega) hq
  | succ m ih =>
    intro k hk hq
    refine sm_179_3 ⟨hs, ?_⟩
    rw [hE, add_sc]
    refine am_ift (by rw [add_lt x0 x1 (by omega) hn]; omega) ⟨hb, ?_⟩
    have IH := ih (k + 1) (by omega)
    have cs : ∀ v : Int32, wat (h 74 b.toNatClampNeg) (h 75 b.toNatClampNeg) (h 76 b.toNatClampNeg) (h 68 3) (x + Int32.ofNat k) day = v → (if v < w then Q (some (.int 0)) h o g else am_X L xs (d + 2) 179 3 [some (.ref 64), some (.int s), some (.int b), some (.int x), some (.int day), some (.int w), some (.int (x + Int32.ofNat (k + 1)))] [] am_C0 h o g Q T) := fun v hv => by
      by_cases c : v < w
      · refine am_ift c ?_
        have e : shl h b x day w k = true := by unfold shl; rw [hv]; exact decide_eq_true c
        have e2 : anyF (shl h b x day w) k (m + 1) = true := by simp only [anyF]; rw [e]; rfl
        rw [if_pos e2] at hq
        exact hq
      · refine am_iff c (IH ?_)
        have e : shl h b x day w k = false := by unfold shl; rw [hv]; exact decide_eq_false c
        have e2 : anyF (shl h b x day w) k (m + 1) = anyF (shl h b x day w) (k + 1) m := by simp only [anyF]; rw [e, Bool.false_or]
        rw [e2] at hq
        exact hq
    by_cases c2 : h 74 b.toNatClampNeg = 2
    · refine am_ift c2 ?_
      by_cases c1 : h 74 b.toNatClampNeg = 1
      · exact am_ift c1 (cs _ (by unfold wat; rw [if_pos c2, if_pos c1]; rfl))
      · exact am_iff c1 (cs _ (by unfold wat; rw [if_pos c2, if_neg c1]; rfl))
    · refine am_iff c2 ?_
      by_cases c1 : h 74 b.toNatClampNeg = 1
      · exact am_ift c1 (cs _ (by unfold wat; rw [if_neg c2, if_pos c1]; rfl))
      · exact am_iff c1 (cs _ (by unfold wat; rw [if_neg c2, if_neg c1]; rfl))
theorem mv_179 {s b x day w : Int32} {n : Nat} (hn : n ≤ 100) (x0 : ¬ x < 0) (x1 : ¬ 500 < x) (hs : am_ix s 10) (hb : am_ix b 10) (hE : h 72 s.toNatClampNeg = Int32.ofNat n) : mv 2 179 [some (.ref 64), some (.int s), some (.int b), some (.int x), some (.int day), some (.int w), none] h (some (.int (if anyF (shl h b x day w) 0 n = true then 0 else 1))) h := fun d L xs o g Q T hq => by
  refine sm_179 ?_
  have := lp_179 (L := L) (xs := xs) (d := d) (T := T) hn x0 x1 hs hb hE n 0 (by omega) hq
  rw [show x + Int32.ofNat 0 = x from Int32.add_zero x] at this
  exact this
/-- what a ship needs for a span -/
def ned (sp : Int32 × Int32) (k l c : Int32) : Int32 := if sp.2 < sp.1 then 1000 else (sp.2 + k * (l / 10)) + c
theorem mv_80 {p s but : Int32} {N : Nat} (hN : N ≤ 80) (hs : am_ix s 5) : mv 2 80 [some (.ref 0), some (.int p), some (.int s), some (.int (Int32.ofNat N)), some (.int but)] h (some (.int (ned (spn (tk_kn h p s but) (h 27) (h 28) (h 4 s.toNatClampNeg, h 5 s.toNatClampNeg) N) (h 8 s.toNatClampNeg) (h 30 s.toNatClampNeg) (h 12 1)))) (wrp h 61 0 1 (spn (tk_kn h p s but) (h 27) (h 28) (h 4 s.toNatClampNeg, h 5 s.toNatClampNeg) N)) := fun d L xs o g Q T hq => by
  refine sm_80 ((mv_76 hN hs).use (sm_80_16 rfl rfl rfl ?_))
  generalize spn (tk_kn h p s but) (h 27) (h 28) (h 4 s.toNatClampNeg, h 5 s.toNatClampNeg) N = sp at hq
  rw [wrp_gi h 61 _ (show (0 : Nat) ≠ 1 by decide), wrp_gj]
  unfold ned at hq
  by_cases em : sp.2 < sp.1
  · rw [if_pos em] at hq; exact am_ift em hq
  · rw [if_neg em] at hq; exact am_iff em ⟨hs, hq⟩
/-- isSafe, by the span that stands -/
theorem mv_177 {s b x day l : Int32} {n : Nat} {sp : Int32 × Int32} (hn : n ≤ 100) (x0 : ¬ x < 0) (x1 : ¬ 500 < x) (hs : am_ix s 10) (hb : am_ix b 10) (hE : h 72 s.toNatClampNeg = Int32.ofNat n) : mv 3 177 [some (.ref 64), some (.int s), some (.int b), some (.int x), some (.int day), some (.int l)] (wrp h 64 35 36 sp) (some (.int (if sp.2 < sp.1 then 0 else if anyF (shl h b x day ((sp.2 + h 73 s.toNatClampNeg * (l / 10)) + h 68 4)) 0 n = true then 0 else 1))) (wrp h 64 35 36 sp) := fun d L xs o g Q T hq => by
  refine sm_177 ?_
  by_cases em : sp.2 < sp.1
  · rw [if_pos em] at hq; exact am_ift em hq
  · rw [if_neg em] at hq
    refine am_iff em ⟨hs, ?_⟩
    have H := mv_179 (h := wrp h 64 35 36 sp) (s := s) (b := b) (x := x) (day := day) (w := (sp.2 + h 73 s.toNatClampNeg * (l / 10)) + h 68 4) hn x0 x1 hs hb hE
    refine H.use (sm_177_38 rfl rfl rfl rfl rfl rfl ?_)
    by_cases c : anyF (shl h b x day ((sp.2 + h 73 s.toNatClampNeg * (l / 10)) + h 68 4)) 0 n = true
    · rw [if_pos c] at hq
      exact am_ift (if_pos c) hq
    · rw [if_neg c] at hq
      exact am_iff (by rw [show (if anyF (shl (wrp h 64 35 36 sp) b x day ((sp.2 + h 73 s.toNatClampNeg * (l / 10)) + h 68 4)) 0 n = true then (0 : Int32) else 1) = 1 from if_neg c]; decide) hq
end
theorem lw_top {k z s t x day : Int32} {n : Nat} (hn1 : n ≤ 100) (k0 : ¬ k < 0) (k2 : ¬ 2 < k) (t0 : ¬ t < 0) (t1 : ¬ 40 < t) (x0 : ¬ x < 0) (x1 : ¬ 500 < x) (z0 : ¬ z < 0) (z1 : ¬ 99 < z) (s0 : ¬ s < 0) (s1 : ¬ 9 < s) (n0 : ¬ day < 0) (n1 : ¬ 9999 < day) : lwt k z s t x day n < 1000 := by
  have bb := bt_b z0 z1 s0 s1 n0 n1
  have t6 := td_b (x := 6) t0 t1 (by decide) (by decide)
  obtain ⟨⟨m1, m2⟩, m3, m4⟩ := mn_b t0 t1 x0 x1 n hn1
  have b1 := bb.1
  have b2 := bb.2.1
  unfold lwt
  generalize btm z s day = B at b1 b2
  generalize mnT t x n = M at m1 m2
  split
  · grind
  · split <;> grind
theorem op_safe {h : am_M} (hI : Iv h) (p s b x n t : Int32) : opR 79 [some (.ref 0), some (.int p), some (.int s), some (.int b), some (.int x), some (.int n), some (.int t)] 176 [some (.ref 64), some (.int p), some (.int s), some (.int b), some (.int x), some (.int n), some (.int t)] cdN h := by
  have hI' := hI
  obtain ⟨hT, hP, ⟨N, hN, e1, e2, hE, hG, hJ, hS⟩, hII, hR, hK⟩ := hI'
  obtain ⟨p0, p1, p2, p3, p4, p5, p6⟩ := hP.1
  obtain ⟨b0, b1, b2, b3, b4, b5, b6, b7, b8, b9, b10, b11, b12, b13⟩ := hP.2.1
  have b3' : ¬ 5 < h 3 1 := by grind
  by_cases a1 : p < 0
  · exact op_fail hI (fun d L xs o g Q T hq => sm_79 (am_ift a1 (hq))) (fun d L xs o g Q T hq => sm_176 (am_ift a1 (hq)))
  by_cases a2 : p < h 3 1
  rotate_left
  · have n2 : h 68 1 - 1 < p := by rw [p1]; exact rq5n b2 b3' a2
    exact op_fail hI (fun d L xs o g Q T hq => sm_79 (am_iff a1 (am_iff a2 (hq)))) (fun d L xs o g Q T hq => sm_176 (am_iff a1 (am_ift n2 (hq))))
  have n2 : ¬ h 68 1 - 1 < p := by rw [p1]; exact rq5 b2 b3' a2
  by_cases a3 : s < 0
  · exact op_fail hI (fun d L xs o g Q T hq => sm_79 (am_iff a1 (am_ift a2 (am_ift a3 (hq))))) (fun d L xs o g Q T hq => sm_176 (am_iff a1 (am_iff n2 (am_ift a3 (hq)))))
  by_cases a4 : s < h 3 0
  rotate_left
  · have n4 : h 68 0 - 1 < s := by rw [p0]; exact rq5n b0 b1 a4
    exact op_fail hI (fun d L xs o g Q T hq => sm_79 (am_iff a1 (am_ift a2 (am_iff a3 (am_iff a4 (hq)))))) (fun d L xs o g Q T hq => sm_176 (am_iff a1 (am_iff n2 (am_iff a3 (am_ift n4 (hq))))))
  have n4 : ¬ h 68 0 - 1 < s := by rw [p0]; exact rq5 b0 b1 a4
  by_cases a5 : b < 0
  · exact op_fail hI (fun d L xs o g Q T hq => sm_79 (am_iff a1 (am_ift a2 (am_iff a3 (am_ift a4 (am_ift a5 (hq))))))) (fun d L xs o g Q T hq => sm_176 (am_iff a1 (am_iff n2 (am_iff a3 (am_iff n4 (am_ift a5 (hq)))))))
  by_cases a6 : b < h 3 2
  rotate_left
  · have n6 : h 68 2 - 1 < b := by rw [p2]; exact rq5n b4 b5 a6
    exact op_fail hI (fun d L xs o g Q T hq => sm_79 (am_iff a1 (am_ift a2 (am_iff a3 (am_ift a4 (am_iff a5 (am_iff a6 (hq)))))))) (fun d L xs o g Q T hq => sm_176 (am_iff a1 (am_iff n2 (am_iff a3 (am_iff n4 (am_iff a5 (am_ift n6 (hq))))))))
  have n6 : ¬ h 68 2 - 1 < b := by rw [p2]; exact rq5 b4 b5 a6
  by_cases a7 : x < 0
  · exact op_fail hI (fun d L xs o g Q T hq => sm_79 (am_iff a1 (am_ift a2 (am_iff a3 (am_ift a4 (am_iff a5 (am_ift a6 (am_ift a7 (hq))))))))) (fun d L xs o g Q T hq => sm_176 (am_iff a1 (am_iff n2 (am_iff a3 (am_iff n4 (am_iff a5 (am_iff n6 (am_ift a7 (hq)))))))))
  by_cases a8 : 99 < x
  · exact op_fail hI (fun d L xs o g Q T hq => sm_79 (am_iff a1 (am_ift a2 (am_iff a3 (am_ift a4 (am_iff a5 (am_ift a6 (am_iff a7 (am_ift a8 (hq)))))))))) (fun d L xs o g Q T hq => sm_176 (am_iff a1 (am_iff n2 (am_iff a3 (am_iff n4 (am_iff a5 (am_iff n6 (am_iff a7 (am_ift a8 (hq))))))))))
  by_cases a9 : n < 0
  · exact op_fail hI (fun d L xs o g Q T hq => sm_79 (am_iff a1 (am_ift a2 (am_iff a3 (am_ift a4 (am_iff a5 (am_ift a6 (am_iff a7 (am_iff a8 (am_ift a9 (hq))))))))))) (fun d L xs o g Q T hq => sm_176 (am_iff a1 (am_iff n2 (am_iff a3 (am_iff n4 (am_iff a5 (am_iff n6 (am_iff a7 (am_iff a8 (am_ift a9 (hq)))))))))))
  by_cases a10 : 9999 < n
  · exact op_fail hI (fun d L xs o g Q T hq => sm_79 (am_iff a1 (am_ift a2 (am_iff a3 (am_ift a4 (am_iff a5 (am_ift a6 (am_iff a7 (am_iff a8 (am_iff a9 (am_ift a10 (hq)))))))))))) (fun d L xs o g Q T hq => sm_176 (am_iff a1 (am_iff n2 (am_iff a3 (am_iff n4 (am_iff a5 (am_iff n6 (am_iff a7 (am_iff a8 (am_iff a9 (am_ift a10 (hq))))))))))))
  by_cases a11 : t < 0
  · exact op_fail2 hI (fun d L xs o g Q T hq => sm_79 (am_iff a1 (am_ift a2 (am_iff a3 (am_ift a4 (am_iff a5 (am_ift a6 (am_iff a7 (am_iff a8 (am_iff a9 (am_iff a10 (am_ift a11 (hq))))))))))))) (fun d L xs o g Q T hq => sm_176 (am_iff a1 (am_iff n2 (am_iff a3 (am_iff n4 (am_iff a5 (am_iff n6 (am_iff a7 (am_iff a8 (am_iff a9 (am_iff a10 (am_ift a11 (hq)))))))))))))
  by_cases a12 : h 23 0 < t
  · have n12 : h 64 28 < t := by rw [e2, ← e1]; exact a12
    exact op_fail2 hI (fun d L xs o g Q T hq => sm_79 (am_iff a1 (am_ift a2 (am_iff a3 (am_ift a4 (am_iff a5 (am_ift a6 (am_iff a7 (am_iff a8 (am_iff a9 (am_iff a10 (am_iff a11 (am_ift a12 (hq)))))))))))))) (fun d L xs o g Q T hq => sm_176 (am_iff a1 (am_iff n2 (am_iff a3 (am_iff n4 (am_iff a5 (am_iff n6 (am_iff a7 (am_iff a8 (am_iff a9 (am_iff a10 (am_iff a11 (am_ift n12 (hq))))))))))))))
  have n12 : ¬ h 64 28 < t := by rw [e2, ← e1]; exact a12
  obtain ⟨M, hM, rfl⟩ := nat_of hN a11 (e1 ▸ a12)
  have ia := iv_at a3 a4 b1
  have ib := iv_at a5 a6 b5
  have hs := hP.2.2.1 _ ia.1 ia.2.1
  obtain ⟨⟨q1, q2, q3⟩, y0, y1, y2, y3, y4, y5⟩ := hP.2.2.2 _ ib.1 ib.2.1
  have x5 : ¬ 500 < x := by grind
  obtain ⟨⟨r1, r2, r3, r4, r5⟩, r6, r7, r8, r9, r10, r11, r12, r13, r14⟩ := hs
  obtain ⟨ns, hns1, hns2, ens⟩ : ∃ ns, 1 ≤ ns ∧ ns ≤ 12 ∧ h 7 s.toNatClampNeg = Int32.ofNat ns := by
    rw [nz_lt] at r11 r12
    have c1 : (1 : Int32).toInt = 1 := rfl
    have c12 : (12 : Int32).toInt = 12 := rfl
    exact ⟨(h 7 s.toNatClampNeg).toNatClampNeg, by rw [nz_cn]; omega, by rw [nz_cn]; omega, nz_of (by omega)⟩
  have q0 : ((h 69 s.toNatClampNeg, h 70 s.toNatClampNeg) : Int32 × Int32) = (h 4 s.toNatClampNeg, h 5 s.toNatClampNeg) := by rw [r1, r2]
  have hk := sp_kn (p := p) (s := s) (but := -1) hE hM (h 69 s.toNatClampNeg, h 70 s.toNatClampNeg)
  rw [q0] at hk
  have H1 := mv_80 (h := h) (p := p) (s := s) (but := -1) (N := M) (by omega) ia.2.2.1
  generalize spn (tk_kn h p s (-1)) (h 27) (h 28) (h 4 s.toNatClampNeg, h 5 s.toNatClampNeg) M = sp at H1 hk
  have H2 := mv_60 (h := wrp h 61 0 1 sp) (b := b) (x := x) (day := n) (n := ns) (by omega) ib.2.2.1
  have M1 := mv_172 (h := am_set (wrp h 61 0 1 sp) 64 3 0) (p := p) (s := s) (but := -1) (N := M) (by omega) ia.2.2.2
  have hk2 : spn (tk_ms (am_set (wrp h 61 0 1 sp) 64 3 0) p s (-1)) ((am_set (wrp h 61 0 1 sp) 64 3 0) 85) ((am_set (wrp h 61 0 1 sp) 64 3 0) 87) ((am_set (wrp h 61 0 1 sp) 64 3 0) 69 s.toNatClampNeg, (am_set (wrp h 61 0 1 sp) 64 3 0) 70 s.toNatClampNeg) M = sp := by
    show spn (tk_ms h p s (-1)) (h 85) (h 87) (h 69 s.toNatClampNeg, h 70 s.toNatClampNeg) M = sp
    rw [q0]
    exact hk
  rw [hk2] at M1
  have M2 := mv_177 (h := am_set (wrp h 61 0 1 sp) 64 3 0) (s := s) (b := b) (x := x) (day := n) (l := h 77 s.toNatClampNeg) (n := ns) (sp := sp) (by omega) a7 x5 ia.2.2.2 ib.2.2.2 (show h 72 s.toNatClampNeg = Int32.ofNat ns from r4 ▸ ens)
  generalize hv : (if sp.2 < sp.1 then (0 : Int32) else if anyF (shl (am_set (wrp h 61 0 1 sp) 64 3 0) b x n ((sp.2 + (am_set (wrp h 61 0 1 sp) 64 3 0) 73 s.toNatClampNeg * (h 77 s.toNatClampNeg / 10)) + (am_set (wrp h 61 0 1 sp) 64 3 0) 68 4)) 0 ns = true then 0 else 1) = v at M2
  have hv' : v = if lwt (h 9 b.toNatClampNeg) (h 10 b.toNatClampNeg) (h 11 b.toNatClampNeg) (h 12 0) x n ns < ned sp (h 8 s.toNatClampNeg) (h 30 s.toNatClampNeg) (h 12 1) then 0 else 1 := by
    rw [← hv]
    show (if sp.2 < sp.1 then (0 : Int32) else if anyF (fun i => decide (wat (h 74 b.toNatClampNeg) (h 75 b.toNatClampNeg) (h 76 b.toNatClampNeg) (h 68 3) (x + Int32.ofNat i) n < ((sp.2 + h 73 s.toNatClampNeg * (h 77 s.toNatClampNeg / 10)) + h 68 4))) 0 ns = true then 0 else 1) = _
    rw [← q1, ← q2, ← q3, p3, p4, ← r5, (hG _ ia.1).1, lw_any hns1 (by omega) y0 y1 b6 b7 a7 x5 y2 y3 y4 y5 a9 a10]
    unfold ned
    by_cases em : sp.2 < sp.1
    · rw [if_pos em, if_pos em, if_pos (lw_top (by omega) y0 y1 b6 b7 a7 x5 y2 y3 y4 y5 a9 a10)]
    · rw [if_neg em, if_neg em]
      simp only [decide_eq_true_eq]
  have vb : am_bit v = true := by rw [hv']; split <;> rfl
  have A : mv 50 79 [some (.ref 0), some (.int p), some (.int s), some (.int b), some (.int x), some (.int n), some (.int (Int32.ofNat M))] h (some (.int v)) (wrp h 61 0 1 sp) := fun d L xs o g Q T hq => sm_79 (am_iff a1 (am_ift a2 (am_iff a3 (am_ift a4 (am_iff a5 (am_ift a6 (am_iff a7 (am_iff a8 (am_iff a9 (am_iff a10 (am_iff a11 (am_iff a12 (H1.use (sm_79_42 rfl rfl ⟨ia.2.2.1, by
    rw [show (wrp h 61 0 1 sp) 7 s.toNatClampNeg = Int32.ofNat ns from ens]
    refine H2.use (sm_79_63 rfl rfl rfl rfl rfl rfl rfl ?_)
    rw [hv'] at hq
    by_cases c : lwt (h 9 b.toNatClampNeg) (h 10 b.toNatClampNeg) (h 11 b.toNatClampNeg) (h 12 0) x n ns < ned sp (h 8 s.toNatClampNeg) (h 30 s.toNatClampNeg) (h 12 1)
    · rw [if_pos c] at hq; exact am_ift c hq
    · rw [if_neg c] at hq; exact am_iff c hq⟩))))))))))))))
  have B : mv 50 176 [some (.ref 64), some (.int p), some (.int s), some (.int b), some (.int x), some (.int n), some (.int (Int32.ofNat M))] (wrp h 61 0 1 sp) (some (.int v)) (wrp (am_set (wrp h 61 0 1 sp) 64 3 0) 64 35 36 sp) := fun d L xs o g Q T hq => sm_176 (am_iff a1 (am_iff n2 (am_iff a3 (am_iff n4 (am_iff a5 (am_iff n6 (am_iff a7 (am_iff a8 (am_iff a9 (am_iff a10 (am_iff a11 (am_iff n12 (M1.use (sm_176_75 rfl rfl ⟨ia.2.2.1, M2.use (sm_176_91 rfl rfl rfl rfl rfl rfl rfl ⟨vb, hq⟩)⟩))))))))))))))
  exact ⟨0, v, v, _, _, .v A, B, hI, rfl, fun _ => rfl, by decide⟩
