/-! ===== the same where the row that is kept isn't yet the same on both sides ===== -/
def Ip (h : am_M) : Prop := iv_T h ∧ iv_P h ∧ iv_N h ∧ True
theorem Iv.ip {h : am_M} (hI : Iv h) : Ip h := ⟨hI.1, hI.2.1, hI.2.2.1, trivial⟩
section
variable {h : am_M}
theorem Ip.sh {h : am_M} (hI : Ip h) {s : Int32} (h0 : ¬ s < 0) (h1 : s < h 3 0) : iv_S h s.toNatClampNeg ∧ am_ix s 5 ∧ am_ix s 10 ∧ s.toNatClampNeg < 5 := by
  have ia := iv_at h0 h1 hI.2.1.2.1.2.1
  exact ⟨hI.2.1.2.2.1 _ ia.1 ia.2.1, ia.2.2.1, ia.2.2.2, ia.1⟩
theorem Ip.be {h : am_M} (hI : Ip h) {b : Int32} (h0 : ¬ b < 0) (h1 : b < h 3 2) : iv_B h b.toNatClampNeg ∧ am_ix b 5 ∧ am_ix b 10 ∧ b.toNatClampNeg < 5 := by
  have ia := iv_at h0 h1 hI.2.1.2.1.2.2.2.2.2.1
  exact ⟨hI.2.1.2.2.2 _ ia.1 ia.2.1, ia.2.2.1, ia.2.2.2, ia.1⟩
theorem mp_172w (hI : Ip h) {p s but : Int32} {M N : Nat} (q : Int32 × Int32) (hN : N ≤ 80) (e1 : h 23 0 = Int32.ofNat N) (hM : M ≤ N) (s0 : ¬ s < 0) (s1 : s < h 3 0) : mv 1 172 [some (.ref 64), some (.int p), some (.int s), some (.int (Int32.ofNat M)), some (.int but), none] (wrp h 64 35 36 q) none (wrp h 64 35 36 (spK h p s but M)) := by
  obtain ⟨⟨⟨r1, r2, _⟩, _⟩, i5, i10, _⟩ := hI.sh s0 s1
  obtain ⟨hT, hP, ⟨N', hN', e1', e2, hE, _⟩, _⟩ := hI
  have en : N' = N := by rw [e1'] at e1; exact (nz_inj (by omega) (by omega)).1 e1
  subst en
  have H := mv_172 (h := wrp h 64 35 36 q) (p := p) (s := s) (but := but) (N := M) (by omega) i10
  have k : spn (tk_ms h p s but) (h 85) (h 87) (h 69 s.toNatClampNeg, h 70 s.toNatClampNeg) M = spK h p s but M := by
    rw [sp_kn hE hM, ← r1, ← r2]
    rfl
  have e : wrp (wrp h 64 35 36 q) 64 35 36 (spK h p s but M) = wrp h 64 35 36 (spK h p s but M) := wrp_w h 64 35 36 q _ (by decide)
  rw [← e, ← k]
  exact H
theorem wtr_topp (hI : Ip h) {s b x day : Int32} (s0 : ¬ s < 0) (s1 : s < h 3 0) (b0 : ¬ b < 0) (b1 : b < h 3 2) (x0 : ¬ x < 0) (x1 : ¬ 500 < x) (d0 : ¬ day < 0) (d1 : ¬ 9999 < day) : wtr h s b x day < 1000 := by
  obtain ⟨hs, i5, i10, _⟩ := hI.sh s0 s1
  obtain ⟨⟨⟨q1, q2, q3⟩, y0, y1, y2, y3, y4, y5⟩, j5, j10, _⟩ := hI.be b0 b1
  obtain ⟨n, n1, n2, n3, n4⟩ := Iv.st hs
  have t0 := hI.2.1.2.1.2.2.2.2.2.2.1
  have t1 := hI.2.1.2.1.2.2.2.2.2.2.2.1
  unfold wtr
  rw [n4]
  exact lw_top (by omega) y0 y1 t0 t1 x0 x1 y2 y3 y4 y5 d0 d1
theorem mp_177w (hI : Ip h) {s b x day : Int32} {sp : Int32 × Int32} (s0 : ¬ s < 0) (s1 : s < h 3 0) (b0 : ¬ b < 0) (b1 : b < h 3 2) (x0 : ¬ x < 0) (x1 : ¬ 500 < x) (d0 : ¬ day < 0) (d1 : ¬ 9999 < day) : mv 3 177 [some (.ref 64), some (.int s), some (.int b), some (.int x), some (.int day), some (.int (h 77 s.toNatClampNeg))] (wrp h 64 35 36 sp) (some (.int (if wtr h s b x day < ned sp (h 8 s.toNatClampNeg) (h 30 s.toNatClampNeg) (h 12 1) then 0 else 1))) (wrp h 64 35 36 sp) := by
  obtain ⟨hs, i5, i10, i⟩ := hI.sh s0 s1
  obtain ⟨⟨⟨q1, q2, q3⟩, y0, y1, y2, y3, y4, y5⟩, j5, j10, _⟩ := hI.be b0 b1
  obtain ⟨n, n1, n2, n3, n4⟩ := Iv.st hs
  have p3 := hI.2.1.1.2.2.2.1
  have p4 := hI.2.1.1.2.2.2.2.1
  have t0 := hI.2.1.2.1.2.2.2.2.2.2.1
  have t1 := hI.2.1.2.1.2.2.2.2.2.2.2.1
  have tp := wtr_topp hI s0 s1 b0 b1 x0 x1 d0 d1
  have H := mv_177 (h := h) (s := s) (b := b) (x := x) (day := day) (l := h 77 s.toNatClampNeg) (n := n) (sp := sp) (by omega) x0 x1 i10 j10 (by rw [← hs.1.2.2.2.1]; exact n3)
  have hG : h 77 s.toNatClampNeg = h 30 s.toNatClampNeg := by
    obtain ⟨_, _, ⟨_, _, _, _, _, hG, _⟩, _⟩ := hI
    exact (hG _ i).1
  have e : ∀ w, anyF (shl h b x day w) 0 n = decide (wtr h s b x day < w) := fun w => by
    show anyF (fun i => decide (wat (h 74 b.toNatClampNeg) (h 75 b.toNatClampNeg) (h 76 b.toNatClampNeg) (h 68 3) (x + Int32.ofNat i) day < w)) 0 n = _
    unfold wtr
    rw [← q1, ← q2, ← q3, p3, n4, lw_any n1 (by omega) y0 y1 t0 t1 x0 x1 y2 y3 y4 y5 d0 d1]
  rw [e, p4, ← hs.1.2.2.2.2] at H
  rw [hG] at H ⊢
  have ev : (if sp.2 < sp.1 then (0 : Int32) else if decide (wtr h s b x day < sp.2 + h 8 s.toNatClampNeg * (h 30 s.toNatClampNeg / 10) + h 12 1) = true then 0 else 1) = if wtr h s b x day < ned sp (h 8 s.toNatClampNeg) (h 30 s.toNatClampNeg) (h 12 1) then 0 else 1 := by
    unfold ned
    by_cases em : sp.2 < sp.1
    · rw [if_pos em, if_pos em, if_pos tp]
    · rw [if_neg em, if_neg em]
      simp only [decide_eq_true_eq]
  rw [ev] at H
  exact H
theorem Ip.fr {h h1 : am_M} (hI : Ip h) (f : fr xI h h1) : Ip h1 := by
  have e2 := f.cell 2 (fun _ => rfl)
  have e4 := f.cell 4 (fun _ => rfl)
  have e5 := f.cell 5 (fun _ => rfl)
  have e6 := f.cell 6 (fun _ => rfl)
  have e7 := f.cell 7 (fun _ => rfl)
  have e8 := f.cell 8 (fun _ => rfl)
  have e9 := f.cell 9 (fun _ => rfl)
  have e10 := f.cell 10 (fun _ => rfl)
  have e11 := f.cell 11 (fun _ => rfl)
  have e24 := f.cell 24 (fun _ => rfl)
  have e25 := f.cell 25 (fun _ => rfl)
  have e26 := f.cell 26 (fun _ => rfl)
  have e27 := f.cell 27 (fun _ => rfl)
  have e28 := f.cell 28 (fun _ => rfl)
  have e29 := f.cell 29 (fun _ => rfl)
  have e30 := f.cell 30 (fun _ => rfl)
  have e31 := f.cell 31 (fun _ => rfl)
  have e32 := f.cell 32 (fun _ => rfl)
  have e33 := f.cell 33 (fun _ => rfl)
  have e35 := f.cell 35 (fun _ => rfl)
  have e36 := f.cell 36 (fun _ => rfl)
  have e37 := f.cell 37 (fun _ => rfl)
  have e38 := f.cell 38 (fun _ => rfl)
  have e39 := f.cell 39 (fun _ => rfl)
  have e40 := f.cell 40 (fun _ => rfl)
  have e41 := f.cell 41 (fun _ => rfl)
  have e42 := f.cell 42 (fun _ => rfl)
  have e43 := f.cell 43 (fun _ => rfl)
  have e44 := f.cell 44 (fun _ => rfl)
  have e62 := f.cell 62 (fun _ => rfl)
  have e63 := f.cell 63 (fun _ => rfl)
  have e67 := f.cell 67 (fun _ => rfl)
  have e68 := f.cell 68 (fun _ => rfl)
  have e69 := f.cell 69 (fun _ => rfl)
  have e70 := f.cell 70 (fun _ => rfl)
  have e71 := f.cell 71 (fun _ => rfl)
  have e72 := f.cell 72 (fun _ => rfl)
  have e73 := f.cell 73 (fun _ => rfl)
  have e74 := f.cell 74 (fun _ => rfl)
  have e75 := f.cell 75 (fun _ => rfl)
  have e76 := f.cell 76 (fun _ => rfl)
  have e77 := f.cell 77 (fun _ => rfl)
  have e78 := f.cell 78 (fun _ => rfl)
  have e79 := f.cell 79 (fun _ => rfl)
  have e80 := f.cell 80 (fun _ => rfl)
  have e81 := f.cell 81 (fun _ => rfl)
  have e82 := f.cell 82 (fun _ => rfl)
  have e83 := f.cell 83 (fun _ => rfl)
  have e84 := f.cell 84 (fun _ => rfl)
  have e85 := f.cell 85 (fun _ => rfl)
  have e86 := f.cell 86 (fun _ => rfl)
  have e87 := f.cell 87 (fun _ => rfl)
  have e93 := f.cell 93 (fun _ => rfl)
  have e94 := f.cell 94 (fun _ => rfl)
  have e98 := f.cell 98 (fun _ => rfl)
  have e99 := f.cell 99 (fun _ => rfl)
  have e100 := f.cell 100 (fun _ => rfl)
  have e101 := f.cell 101 (fun _ => rfl)
  have e102 := f.cell 102 (fun _ => rfl)
  have e103 := f.cell 103 (fun _ => rfl)
  have e104 := f.cell 104 (fun _ => rfl)
  have e105 := f.cell 105 (fun _ => rfl)
  have e106 := f.cell 106 (fun _ => rfl)
  have e107 := f.cell 107 (fun _ => rfl)
  have s0_5 := f 0 5 rfl
  have s0_11 := f 0 11 rfl
  have s1_0 := f 1 0 rfl
  have s1_1 := f 1 1 rfl
  have s3_0 := f 3 0 rfl
  have s3_1 := f 3 1 rfl
  have s3_2 := f 3 2 rfl
  have s12_0 := f 12 0 rfl
  have s12_1 := f 12 1 rfl
  have s12_2 := f 12 2 rfl
  have s12_3 := f 12 3 rfl
  have s23_0 := f 23 0 rfl
  have s34_0 := f 34 0 rfl
  have s64_18 := f 64 18 rfl
  have s64_27 := f 64 27 rfl
  have s64_28 := f 64 28 rfl
  have s64_45 := f 64 45 rfl
  have s64_51 := f 64 51 rfl
  have s64_52 := f 64 52 rfl
  unfold Ip iv_T iv_P iv_S iv_B iv_N at hI ⊢
  simp only [e2, e4, e5, e6, e7, e8, e9, e10, e11, e24, e25, e26, e27, e28, e29, e30, e31, e32, e33, e35, e36, e37, e38, e39, e40, e41, e42, e43, e44, e62, e63, e67, e68, e69, e70, e71, e72, e73, e74, e75, e76, e77, e78, e79, e80, e81, e82, e83, e84, e85, e86, e87, e93, e94, e98, e99, e100, e101, e102, e103, e104, e105, e106, e107, s0_5, s0_11, s1_0, s1_1, s3_0, s3_1, s3_2, s12_0, s12_1, s12_2, s12_3, s23_0, s34_0, s64_18, s64_27, s64_28, s64_45, s64_51, s64_52]
  exact hI
end
theorem mlc_ofp {h : am_M} {n B W : Nat} {ar sy : Nat → Nat} (hI : Ip h) (hc : plc h n B W ar sy) : mlc h n B W ar sy := by
  obtain ⟨h1, ⟨en, eB, eW⟩, h5⟩ := hc
  obtain ⟨_, hP, _⟩ := hI
  obtain ⟨p0, p1, p2, p3, p4, p5, p6⟩ := hP.1
  refine ⟨h1, ⟨p0.trans en, p2.trans eB, p5.trans eW⟩, fun s hs => ?_⟩
  obtain ⟨⟨_, _, r3, r4, _⟩, _⟩ := hP.2.2.1 s (by omega) (by rw [en, nz_nlt (by omega) (by omega)]; omega)
  rw [← r3, ← r4]
  exact h5 s hs
theorem mp_177v {h : am_M} (hI : Ip h) {s b x day : Int32} (s0 : ¬ s < 0) (s1 : s < h 3 0) (b0 : ¬ b < 0) (b1 : b < h 3 2) (x0 : ¬ x < 0) (x1 : ¬ 500 < x) (d0 : ¬ day < 0) (d1 : ¬ 9999 < day) : mv 3 177 [some (.ref 64), some (.int s), some (.int b), some (.int x), some (.int day), some (.int (h 77 s.toNatClampNeg))] h (some (.int (if wtr h s b x day < ned (h 64 35, h 64 36) (h 8 s.toNatClampNeg) (h 30 s.toNatClampNeg) (h 12 1) then 0 else 1))) h := by
  have := mp_177w hI (sp := (h 64 35, h 64 36)) s0 s1 b0 b1 x0 x1 d0 d1
  rw [w_self] at this
  exact this
section
variable {h : am_M} {n B W : Nat} {day : Int32}
theorem mp_182 (hI : Ip h) (hc : plc h n B W (arN h) (syN h)) (d0 : ¬ day < 0) (d1 : ¬ 9999 < day) {s : Nat} (hs : s < n) {nd : Nat → Int32} (hnd : nd s = ned (h 64 35, h 64 36) (h 8 s) (h 30 s) (h 12 1)) : mx 4 182 0 [some (.ref 64), some (.int (Int32.ofNat s)), some (.int day), none, none] [] h (fun v h1 => v = none ∧ fr x88 h h1 ∧ (∀ b x, b < B → x < 3 → h1 88 ((s * 5 + b) * 3 + x) = ft1 W (plFt (wtF h day) nd) s b x) ∧ ∀ s' b' x', ¬ s' = s → b' < 5 → x' < 3 → h1 88 ((s' * 5 + b') * 3 + x') = h 88 ((s' * 5 + b') * 3 + x')) := by
  have hm := mlc_ofp hI hc
  obtain ⟨⟨hn5, hB5, hW2⟩, ⟨en, eB, eW⟩, hA⟩ := hm
  have ens := hc.2.1.1
  have eBs := hc.2.1.2.1
  have inner : ∀ (P : Option Value → am_M → Prop) (b : Nat), b < B → ∀ (r x : Nat) (h' : am_M), x + r = 3 → fr x88 h h' → (∀ b' x', b' < B → x' < 3 → (b' < b ∨ (b' = b ∧ x' < x)) → h' 88 ((s * 5 + b') * 3 + x') = ft1 W (plFt (wtF h day) nd) s b' x') → (∀ s' b' x', ¬ s' = s → b' < 5 → x' < 3 → h' 88 ((s' * 5 + b') * 3 + x') = h 88 ((s' * 5 + b') * 3 + x')) → (∀ h2 x2, fr x88 h h2 → (∀ b' x', b' < B → x' < 3 → b' < b + 1 → h2 88 ((s * 5 + b') * 3 + x') = ft1 W (plFt (wtF h day) nd) s b' x') → (∀ s' b' x', ¬ s' = s → b' < 5 → x' < 3 → h2 88 ((s' * 5 + b') * 3 + x') = h 88 ((s' * 5 + b') * 3 + x')) → mx 4 182 2 [some (.ref 64), some (.int (Int32.ofNat s)), some (.int day), some (.int (Int32.ofNat (b + 1))), some (.int x2)] [] h2 P) → mx 4 182 15 [some (.ref 64), some (.int (Int32.ofNat s)), some (.int day), some (.int (Int32.ofNat b)), some (.int (Int32.ofNat x))] [] h' P := by
    intro P b hb r
    induction r with
    | zero =>
      intro x h' hx hf hd ho K
      have : x = 3 := by omega
      subst this
      refine (K h' (Int32.ofNat 3) hf (fun b' x' a1 a2 a3 => hd b' x' a1 a2 (by omega)) ho).go fun d L xs o g Q T hx' => sm_182_15 (am_iff (by decide) ?_)
      rw [nz_succ]
      exact hx'
    | succ r ih =>
      intro x h' hx hf hd ho K
      have lt : Int32.ofNat x < 3 := by
        show Int32.ofNat x < Int32.ofNat 3
        rw [nz_nlt (by omega) (by decide)]; omega
      obtain ⟨i1, i2⟩ := f183_ix (s := s) (b := b) (x := x) (by omega) (by omega) (by omega)
      have put : ∀ z : Int32, z = ft1 W (plFt (wtF h day) nd) s b x → mx 4 182 15 [some (.ref 64), some (.int (Int32.ofNat s)), some (.int day), some (.int (Int32.ofNat b)), some (.int (Int32.ofNat (x + 1)))] [] (am_set h' 88 ((s * 5 + b) * 3 + x) z) P := fun z hz => ih (x + 1) _ (by omega) (hf.set 88 _ _ rfl) (fun b' x' a1 a2 a3 => by
        rw [as_get]
        by_cases e : (s * 5 + b') * 3 + x' = (s * 5 + b) * 3 + x
        · rw [if_pos ⟨rfl, e⟩]
          have e1 : b' = b := by omega
          have e2 : x' = x := by omega
          rw [e1, e2]
          exact hz
        · rw [if_neg (fun q => e q.2)]
          exact hd b' x' a1 a2 (by omega)) (fun s' b' x' a1 a2 a3 => by
        rw [as_get, if_neg (fun q => by have := q.2; omega)]
        exact ho s' b' x' a1 a2 a3) K
      by_cases c : W < x
      · refine (put 0 (by unfold ft1; rw [decide_eq_false (by omega)]; rfl)).go fun d L xs o g Q T hx' => sm_182_15 (am_ift lt ?_)
        rw [hf 68 5 rfl, eW]
        refine am_ift (by rw [nz_nlt (by omega) (by omega)]; exact c) ⟨i1, ?_⟩
        rw [i2, nz_succ, show vp_nar .boolean 0 = 0 from rfl]
        exact hx'
      · have hIh := hI.fr (hf.mono fun _ _ hk => x88_I hk)
        have e71 : h' 71 s = h 6 s := by
          rw [hf 71 s rfl, (hA s hs).1]
          exact (hc.2.2 s hs).1.symm
        have ea := hc.2.2 s hs
        have hv : ¬ h 6 s + Int32.ofNat x < 0 ∧ ¬ 500 < h 6 s + Int32.ofNat x := by
          rw [ea.1, ← Int32.ofNat_add]
          refine ⟨nat_n0 (by omega), ?_⟩
          show ¬ Int32.ofNat 500 < _
          rw [nz_nlt (by decide) (by omega)]
          omega
        have M := mp_177v (h := h') hIh (s := Int32.ofNat s) (b := Int32.ofNat b) (x := h 6 s + Int32.ofNat x) (day := day) (nat_n0 (by omega)) (by rw [hf 3 0 rfl, ens, nz_nlt (by omega) (by omega)]; omega) (nat_n0 (by omega)) (by rw [hf 3 2 rfl, eBs, nz_nlt (by omega) (by omega)]; omega) hv.1 hv.2 d0 d1
        rw [wtr_fr (hf.mono fun _ _ hk => x88_I hk), nz_c s (by omega), hf 64 35 rfl, hf 64 36 rfl, hf 8 s rfl, hf 30 s rfl, hf 12 1 rfl, ← hnd] at M
        by_cases cw : wtr h (Int32.ofNat s) (Int32.ofNat b) (h 6 s + Int32.ofNat x) day < nd s
        · rw [if_pos cw] at M
          refine (put 0 (by unfold ft1 plFt; rw [decide_eq_true (show x ≤ W by omega), decide_eq_false (fun q => q cw)]; rfl)).go fun d L xs o g Q T hx' => sm_182_15 (am_ift lt ?_)
          rw [hf 68 5 rfl, eW]
          refine am_iff (by rw [nz_nlt (by omega) (by omega)]; exact c) ⟨ix_n (by omega) (by decide), ix_n (by omega) (by decide), ?_⟩
          rw [nz_c s (by omega), e71]
          refine M.use (sm_182_65 (am_ift rfl ⟨i1, ?_⟩))
          rw [i2, nz_succ, show vp_nar .boolean 0 = 0 from rfl]
          exact hx'
        · rw [if_neg cw] at M
          refine (put 1 (by unfold ft1 plFt; rw [decide_eq_true (show x ≤ W by omega), decide_eq_true (show ¬ wtF h day s b x < nd s from cw)]; rfl)).go fun d L xs o g Q T hx' => sm_182_15 (am_ift lt ?_)
          rw [hf 68 5 rfl, eW]
          refine am_iff (by rw [nz_nlt (by omega) (by omega)]; exact c) ⟨ix_n (by omega) (by decide), ix_n (by omega) (by decide), ?_⟩
          rw [nz_c s (by omega), e71]
          refine M.use (sm_182_65 (am_iff (by decide) ⟨i1, ?_⟩))
          rw [i2, nz_succ, show vp_nar .boolean 1 = 1 from rfl]
          exact hx'
  have outer : ∀ (r b : Nat) (q4 : Option Value) (h' : am_M), am_nl q4 = true → b + r = B → fr x88 h h' → (∀ b' x', b' < B → x' < 3 → b' < b → h' 88 ((s * 5 + b') * 3 + x') = ft1 W (plFt (wtF h day) nd) s b' x') → (∀ s' b' x', ¬ s' = s → b' < 5 → x' < 3 → h' 88 ((s' * 5 + b') * 3 + x') = h 88 ((s' * 5 + b') * 3 + x')) → mx 4 182 2 [some (.ref 64), some (.int (Int32.ofNat s)), some (.int day), some (.int (Int32.ofNat b)), q4] [] h' (fun v h1 => v = none ∧ fr x88 h h1 ∧ (∀ b x, b < B → x < 3 → h1 88 ((s * 5 + b) * 3 + x) = ft1 W (plFt (wtF h day) nd) s b x) ∧ ∀ s' b' x', ¬ s' = s → b' < 5 → x' < 3 → h1 88 ((s' * 5 + b') * 3 + x') = h 88 ((s' * 5 + b') * 3 + x')) := by
    intro r
    induction r with
    | zero =>
      intro b q4 h' hq4 hb hf hd ho
      refine .end none h' ⟨rfl, hf, fun b x a1 a2 => hd b x a1 a2 (by omega), ho⟩ fun d L xs o g Q T hq => sm_182_2 hq4 ?_
      rw [hf 68 2 rfl, eB]
      exact am_iff (by rw [nz_nlt (by omega) (by omega)]; omega) hq
    | succ r ih =>
      intro b q4 h' hq4 hb hf hd ho
      refine (inner _ b (by omega) 3 0 h' (by omega) hf (fun b' x' a1 a2 a3 => hd b' x' a1 a2 (by omega)) ho (fun h2 x2 f1 f2 f3 => ih (b + 1) _ h2 rfl (by omega) f1 f2 f3)).go fun d L xs o g Q T hx => sm_182_2 hq4 ?_
      rw [hf 68 2 rfl, eB]
      exact am_ift (by rw [nz_nlt (by omega) (by omega)]; omega) hx
  exact (outer B 0 none h rfl (by omega) (fr.refl _ _) (fun b' x' a1 a2 a3 => by omega) (fun _ _ _ _ _ _ => rfl)).go fun d L xs o g Q T hx => sm_182 hx
theorem mp_172v (hI : Ip h) {p s but : Int32} {M N : Nat} (hN : N ≤ 80) (e1 : h 23 0 = Int32.ofNat N) (hM : M ≤ N) (s0 : ¬ s < 0) (s1 : s < h 3 0) : mv 1 172 [some (.ref 64), some (.int p), some (.int s), some (.int (Int32.ofNat M)), some (.int but), none] h none (wrp h 64 35 36 (spK h p s but M)) := by
  have := mp_172w hI (p := p) (but := but) (h 64 35, h 64 36) hN e1 hM s0 s1
  rw [w_self] at this
  exact this
theorem Ip.ev {h : am_M} (hI : Ip h) {N : Nat} (hN : N ≤ 80) (e1 : h 23 0 = Int32.ofNat N) : h 64 28 = Int32.ofNat N := by
  obtain ⟨_, _, ⟨N', hN', e1', e2, _⟩, _⟩ := hI
  rw [e2, ← e1', e1]
theorem mp_181 (hI : Ip h) (hc : plc h n B W (arN h) (syN h)) (d0 : ¬ day < 0) (d1 : ¬ 9999 < day) {N : Nat} {p : Int32} (hN : N ≤ 80) (e1 : h 23 0 = Int32.ofNat N) : mx 5 181 0 [some (.ref 64), some (.int p), some (.int day), none] [] h (fun v h1 => v = none ∧ fr xM h h1 ∧ mft h1 n B W (plFt (wtF h day) (fun s => neK h p (Int32.ofNat s) (-1) N))) := by
  have hm := mlc_ofp hI hc
  obtain ⟨⟨hn5, hB5, hW2⟩, ⟨en, eB, eW⟩, hA⟩ := hm
  have e2 := hI.ev hN e1
  have lp : ∀ (r s : Nat) (h' : am_M), s + r = n → fr xM h h' → (∀ s' b x, s' < s → b < B → x < 3 → h' 88 ((s' * 5 + b) * 3 + x) = ft1 W (plFt (wtF h day) (fun s => neK h p (Int32.ofNat s) (-1) N)) s' b x) → mx 5 181 2 [some (.ref 64), some (.int p), some (.int day), some (.int (Int32.ofNat s))] [] h' (fun v h1 => v = none ∧ fr xM h h1 ∧ mft h1 n B W (plFt (wtF h day) (fun s => neK h p (Int32.ofNat s) (-1) N))) := by
    intro r
    induction r with
    | zero =>
      intro s h' hs hf hd
      have hse : s = n := by omega
      subst hse
      refine .end none h' ⟨rfl, hf, hd⟩ fun d L xs o g Q T hq => sm_181_2 ?_
      rw [hf 68 0 rfl, en]
      exact am_iff (by rw [nz_nlt (by omega) (by omega)]; omega) hq
    | succ r ih =>
      intro s h' hs hf hd
      have hfI := hf.mono fun _ _ hk => xM_I hk
      have hIh := hI.fr hfI
      have M := mp_172v (h := h') hIh (p := p) (s := Int32.ofNat s) (but := -1) hN (by rw [hf 23 0 rfl]; exact e1) (Nat.le_refl N) (nat_n0 (by omega)) (by rw [hf 3 0 rfl, hc.2.1.1, nz_nlt (by omega) (by omega)]; omega)
      rw [(neK_fr hfI p (Int32.ofNat s) (-1) N).2] at M
      have f2 : fr xM h (wrp h' 64 35 36 (spK h p (Int32.ofNat s) (-1) N)) := (hf.set 64 35 _ rfl).set 64 36 _ rfl
      have hI2 := hI.fr (f2.mono fun _ _ hk => xM_I hk)
      have hc2 : plc (wrp h' 64 35 36 (spK h p (Int32.ofNat s) (-1) N)) n B W (arN (wrp h' 64 35 36 (spK h p (Int32.ofNat s) (-1) N))) (syN (wrp h' 64 35 36 (spK h p (Int32.ofNat s) (-1) N))) := by
        have ea : arN (wrp h' 64 35 36 (spK h p (Int32.ofNat s) (-1) N)) = arN h := by
          funext t; unfold arN; rw [f2 6 t rfl]
        have es : syN (wrp h' 64 35 36 (spK h p (Int32.ofNat s) (-1) N)) = syN h := by
          funext t; unfold syN; rw [f2 7 t rfl]
        rw [ea, es]
        exact hc.fr f2 (fun _ => rfl) rfl (fun _ => rfl) (fun _ => rfl)
      obtain ⟨v, h3, ⟨rfl, g1, g2, g3⟩, G⟩ := mp_182 hI2 hc2 d0 d1 (s := s) (by omega) (nd := fun s => neK h p (Int32.ofNat s) (-1) N) (by
        show neK h p (Int32.ofNat s) (-1) N = ned (spK h p (Int32.ofNat s) (-1) N) (h' 8 s) (h' 30 s) (h' 12 1)
        rw [hf 8 s rfl, hf 30 s rfl, hf 12 1 rfl]
        unfold neK
        rw [nz_c s (by omega)])
      have ew : wtF (wrp h' 64 35 36 (spK h p (Int32.ofNat s) (-1) N)) day = wtF h day := by
        funext s' b' x'
        unfold wtF
        rw [wtr_fr (f2.mono fun _ _ hk => xM_I hk), f2 6 s' rfl]
      rw [ew] at g2
      refine (ih (s + 1) h3 (by omega) (f2.trans (g1.mono fun _ _ hk => x88_M hk)) (fun s' b x a1 a2 a3 => ?_)).go fun d L xs o g Q T hx => sm_181_2 ?_
      · by_cases e : s' = s
        · subst e; exact g2 b x a2 a3
        · rw [g3 s' b x e (by omega) a3, wrp_c _ _ _ _ (by decide)]
          exact hd s' b x (by omega) a2 a3
      · rw [hf 68 0 rfl, en, hf 64 28 rfl, e2]
        refine am_ift (by rw [nz_nlt (by omega) (by omega)]; omega) (M.use (sm_181_23 (G d L xs o g _ _ (sm_181_29 ?_))))
        rw [nz_succ]
        exact hx
  exact (lp n 0 h (by omega) (fr.refl _ _) (fun s' b x a1 a2 a3 => by omega)).go fun d L xs o g Q T hx => sm_181 hx
end
