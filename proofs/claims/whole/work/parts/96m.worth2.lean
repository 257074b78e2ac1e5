/-! ===== worth: the model ===== -/
theorem arN_fr {h h1 : am_M} (f : fr xI h h1) : arN h1 = arN h ∧ syN h1 = syN h := ⟨by funext t; unfold arN; rw [f 6 t rfl], by funext t; unfold syN; rw [f 7 t rfl]⟩
theorem plcI {h h1 : am_M} {n B W : Nat} (hc : plc h n B W (arN h) (syN h)) (f : fr xI h h1) : plc h1 n B W (arN h1) (syN h1) := by
  rw [(arN_fr f).1, (arN_fr f).2]
  exact hc.fr f (fun _ => rfl) rfl (fun _ => rfl) (fun _ => rfl)
theorem wtF_fr {h h1 : am_M} (f : fr xI h h1) (day : Int32) : wtF h1 day = wtF h day := by
  funext s b x
  unfold wtF
  rw [wtr_fr f, f 6 s rfl]
def xV (k j : Nat) : Bool := xM k j || xB k j
theorem xV_I {k j : Nat} (h : xI k j = false) : xV k j = false := by
  unfold xV
  rw [xM_I h, Bool.false_or]
  cases hc : xB k j with
  | false => rfl
  | true =>
    exfalso
    unfold xB at hc
    simp only [Bool.or_eq_true, Bool.and_eq_true, Nat.beq_eq] at hc
    rcases hc with hc | hc | hc | hc | ⟨hc, hc'⟩
    · subst hc; cases h
    · subst hc; cases h
    · subst hc; cases h
    · subst hc; cases h
    · subst hc hc'; cases h
theorem xM_V {k j : Nat} (h : xM k j = true) : xV k j = true := by unfold xV; rw [h]; rfl
theorem xB_V {k j : Nat} (h : xB k j = true) : xV k j = true := by unfold xV; rw [h, Bool.or_true]
theorem x88_V {k j : Nat} (h : x88 k j = true) : xV k j = true := by unfold x88 at h; rw [Nat.beq_eq] at h; subst h; rfl
/-- bounds of what is known -/
theorem spK_b {h : am_M} (hI : Iv h) {N : Nat} (hN : N ≤ 80) (e1 : h 23 0 = Int32.ofNat N) {p s but : Int32} (s0 : ¬ s < 0) (s1 : s < h 3 0) : ¬ (spK h p s but N).1 < 0 ∧ ¬ 60 < (spK h p s but N).1 ∧ ¬ (spK h p s but N).2 < 0 ∧ ¬ 60 < (spK h p s but N).2 := by
  obtain ⟨⟨_, r6, r7, r8, _⟩, _⟩ := hI.sh s0 s1
  obtain ⟨_, _, ⟨N', hN', e1', e2, hE, _⟩, _⟩ := hI
  have en : N' = N := by rw [e1'] at e1; exact (nz_inj (by omega) (by omega)).1 e1
  subst en
  obtain ⟨a1, a2⟩ := spn_b (tk := tk_kn h p s but) (D := h 27) (T := h 28) (s := (h 4 s.toNatClampNeg, h 5 s.toNatClampNeg)) N'
  obtain ⟨b1, b2⟩ := spn_b2 (tk := tk_kn h p s but) (D := h 27) (T := h 28) (s := (h 4 s.toNatClampNeg, h 5 s.toNatClampNeg)) (show ¬ 60 < h 4 s.toNatClampNeg by grind) (show ¬ h 5 s.toNatClampNeg < 0 by grind) N' (fun k hk => by
    obtain ⟨⟨_, _, _, _, u5, u6, _⟩, _⟩ := hE k hk
    exact ⟨u5, u6⟩)
  simp only at a1 a2
  unfold spK
  refine ⟨?_, b1, b2, ?_⟩
  · generalize (spn (tk_kn h p s but) (h 27) (h 28) (h 4 s.toNatClampNeg, h 5 s.toNatClampNeg) N').1 = q at a2
    grind
  · generalize (spn (tk_kn h p s but) (h 27) (h 28) (h 4 s.toNatClampNeg, h 5 s.toNatClampNeg) N').2 = q at a1
    grind
section
variable {h : am_M} {n B W N : Nat} {p : Int32}
/-- what a lead is worth, both sides -/
def woV (h : am_M) (p : Int32) (n B W N s : Nat) (z : Int32) : Int32 := woN (spK h p (Int32.ofNat s) (-1) N) z (fun g' => Int32.ofNat (gNo (wtF h 0) (upd (fun s => neK h p (Int32.ofNat s) (-1) N) s ((g' + h 8 s * (h 30 s / 10)) + h 12 1)) (arN h) (syN h) B W n) - Int32.ofNat (gNo (wtF h 0) (fun s => neK h p (Int32.ofNat s) (-1) N) (arN h) (syN h) B W n))
theorem mx_193 (hI : Iv h) (hc : plc h n B W (arN h) (syN h)) (hN : N ≤ 80) (e1 : h 23 0 = Int32.ofNat N) {s : Nat} {z : Int32} (hs : s < n) (z0 : ¬ z < 1) (z1 : ¬ 60 < z) {h' : am_M} (hf : fr xV h h') (hm : mft h' n B W (plFt (wtF h 0) (fun s => neK h p (Int32.ofNat s) (-1) N))) : mx 15 193 0 [some (.ref 64), some (.int p), some (.int (Int32.ofNat s)), some (.int z), some (.int (Int32.ofNat (gNo (wtF h 0) (fun s => neK h p (Int32.ofNat s) (-1) N) (arN h) (syN h) B W n) - 1)), none, none, none] [] h' (fun w h1 => w = some (.int (woV h p n B W N s z)) ∧ fr xV h h1 ∧ mft h1 n B W (plFt (wtF h 0) (fun s => neK h p (Int32.ofNat s) (-1) N))) := by
  have hc' := hc
  obtain ⟨⟨hn5, hB5, hW2⟩, ⟨en, eB, eW⟩, hA⟩ := hc'
  have hml := mlc_of hI hc
  have sn0 := nat_n0 (k := s) (by omega)
  have sn1 : Int32.ofNat s < h 3 0 := by rw [en, nz_nlt (by omega) (by omega)]; exact hs
  obtain ⟨l0, l1, r0, r1⟩ := spK_b hI hN e1 (p := p) (but := -1) sn0 sn1
  have e28 := hI.ev hN e1
  obtain ⟨sp, hsp⟩ : ∃ sp, sp = spK h p (Int32.ofNat s) (-1) N := ⟨_, rfl⟩
  obtain ⟨nd, hnd⟩ : ∃ nd : Nat → Int32, nd = fun s => neK h p (Int32.ofNat s) (-1) N := ⟨_, rfl⟩
  obtain ⟨gf, hgf⟩ : ∃ gf : Int32 → Int32, gf = fun g' => Int32.ofNat (gNo (wtF h 0) (upd nd s ((g' + h 8 s * (h 30 s / 10)) + h 12 1)) (arN h) (syN h) B W n) - Int32.ofNat (gNo (wtF h 0) nd (arN h) (syN h) B W n) := ⟨_, rfl⟩
  have ewo : woV h p n B W N s z = woN sp z gf := by rw [hgf, hnd, hsp]; rfl
  rw [ewo, ← hnd]
  rw [← hnd] at hm
  rw [← hsp] at l0 l1 r0 r1
  -- spans, anywhere on the way
  have span : ∀ q, fr xV h q → mv 1 172 [some (.ref 64), some (.int p), some (.int (Int32.ofNat s)), some (.int (q 64 28)), some (.int (-1)), none] q none (wrp q 64 35 36 sp) := fun q fq => by
    have fI := fq.mono fun _ _ hk => xV_I hk
    have M := mv_172v (h := q) (hI.fr fI) (p := p) (s := Int32.ofNat s) (but := -1) hN (by rw [fI 23 0 rfl]; exact e1) (Nat.le_refl N) sn0 (by rw [fI 3 0 rfl]; exact sn1)
    rw [(neK_fr fI p (Int32.ofNat s) (-1) N).2, ← hsp] at M
    rw [fI 64 28 rfl, e28]
    exact M
  have wfr : ∀ q x, fr xV h q → fr xV h (wrp q 64 35 36 x) := fun q x fq => (fq.set 64 35 _ rfl).set 64 36 _ rfl
  -- fits of the ship, anywhere on the way
  have fits : ∀ (q : am_M) (v : Int32), fr xV h q → (∀ s' b x, ¬ s' = s → s' < n → b < B → x < 3 → q 88 ((s' * 5 + b) * 3 + x) = ft1 W (plFt (wtF h 0) nd) s' b x) → v = ned (q 64 35, q 64 36) (h 8 s) (h 30 s) (h 12 1) → mx 4 182 0 [some (.ref 64), some (.int (Int32.ofNat s)), some (.int 0), none, none] [] q (fun w h1 => w = none ∧ fr xV h h1 ∧ mft h1 n B W (plFt (wtF h 0) (upd nd s v))) := fun q v fq ho hv => by
    have fI := fq.mono fun _ _ hk => xV_I hk
    refine (mx_182 (h := q) (day := 0) (hI.fr fI) (plcI hc fI) (by decide) (by decide) hs (nd := upd nd s v) (by rw [fI 8 s rfl, fI 30 s rfl, fI 12 1 rfl, ← hv]; simp [upd])).mono ?_
    rintro w h1 ⟨rfl, g1, g2, g3⟩
    refine ⟨rfl, fq.trans (g1.or fun _ _ hk => x88_V hk), fun s' b x a1 a2 a3 => ?_⟩
    by_cases e : s' = s
    · subst e
      rw [g2 b x a2 a3, wtF_fr fI]
    · rw [g3 s' b x e (by omega) a3, ho s' b x e a1 a2 a3]
      unfold ft1 plFt upd
      rw [if_neg e]
  have M1 := span h' hf
  have f2 := wfr h' sp hf
  obtain ⟨m, hmm⟩ : ∃ m, m = if z - 1 < sp.2 then z - 1 else sp.2 := ⟨_, rfl⟩
  have ew : woN sp z gf = if sp.2 < sp.1 then 0 else if 0 < (m - sp.1) + 1 then ((1000 * gf m) * ((m - sp.1) + 1)) / ((sp.2 - sp.1) + 1) else 0 := by rw [hmm]; rfl
  rw [ew]
  have mle : ¬ sp.2 < m := by rw [hmm]; split <;> grind
  have mge : ¬ m < 0 := by rw [hmm]; split <;> grind
  have m2 : mft (wrp h' 64 35 36 sp) n B W (plFt (wtF h 0) nd) := fun s' b x a1 a2 a3 => by rw [wrp_c _ _ _ _ (by decide)]; exact hm s' b x a1 a2 a3
  by_cases em : sp.2 < sp.1
  · have na : ¬ 0 < (sp.2 - sp.1) + 1 := by
      generalize sp.1 = a at l0 l1 em
      generalize sp.2 = b at r0 r1 em
      grind
    rw [if_pos em]
    exact .end _ (wrp h' 64 35 36 sp) ⟨rfl, f2, m2⟩ fun d L xs o g Q T hq => sm_193 (M1.use (sm_193_11 rfl rfl rfl (am_iff na hq)))
  have ya : 0 < (sp.2 - sp.1) + 1 := by
    generalize sp.1 = a at l0 l1 em
    generalize sp.2 = b at r0 r1 em
    grind
  have a0 : ¬ (sp.2 - sp.1) + 1 = 0 := by
    generalize (sp.2 - sp.1) + 1 = a at ya
    grind
  rw [if_neg em]
  by_cases bl : 0 < (m - sp.1) + 1
  rotate_left
  · rw [if_neg bl]
    refine .end _ (wrp h' 64 35 36 sp) ⟨rfl, f2, m2⟩ fun d L xs o g Q T hq => sm_193 (M1.use (sm_193_11 rfl rfl rfl (am_ift ya (am_iff ?_ hq))))
    rw [wrp_gi h' 64 _ (show (35 : Nat) ≠ 36 by decide), wrp_gj, ← hmm]
    exact bl
  rw [if_pos bl]
  have nm : ¬ m < sp.1 := by
    generalize sp.1 = a at l0 l1 em bl
    generalize sp.2 = b at r0 r1 em mle
    grind
  have f3 : fr xV h (am_set (wrp h' 64 35 36 sp) 64 36 m) := f2.set 64 36 _ rfl
  obtain ⟨w4, h4, ⟨rfl, f4, m4⟩, G4⟩ := fits (am_set (wrp h' 64 35 36 sp) 64 36 m) ((m + h 8 s * (h 30 s / 10)) + h 12 1) f3 (fun s' b x _ a1 a2 a3 => by rw [as_cell _ _ _ (by decide)]; exact m2 s' b x a1 a2 a3) (by
    have q1 : (am_set (wrp h' 64 35 36 sp) 64 36 m) 64 36 = m := as_self _ _ _ _
    have q2 : (am_set (wrp h' 64 35 36 sp) 64 36 m) 64 35 = sp.1 := rfl
    rw [q1, q2]
    unfold ned
    rw [if_neg nm])
  have fI4 := f4.mono fun _ _ hk => xV_I hk
  obtain ⟨w5, h5, ⟨rfl, f5, _⟩, G5⟩ := mx_184 (h0 := h4) (ar := arN h) (sy := syN h) (hml.fr fI4 (fun _ => rfl) (fun _ => rfl) (fun _ => rfl)) m4 (fun _ => 0)
  rw [sr_N, Nat.max_eq_right (Nat.zero_le _)] at G5
  have f5' : fr xV h h5 := f4.trans (f5.or fun _ _ hk => xB_V hk)
  have M6 := span h5 f5'
  obtain ⟨w7, h7, ⟨rfl, f7, m7⟩, G7⟩ := fits (wrp h5 64 35 36 sp) (nd s) (wfr h5 sp f5') (fun s' b x e a1 a2 a3 => by
    rw [wrp_c _ _ _ _ (by decide), f5 88 _ rfl, m4 s' b x a1 a2 a3]
    unfold ft1 plFt upd
    rw [if_neg e]) (by
    rw [wrp_gi h5 64 _ (show (35 : Nat) ≠ 36 by decide), wrp_gj, hnd]
    show neK h p (Int32.ofNat s) (-1) N = _
    unfold neK
    rw [← hsp, nz_c s (by omega)])
  rw [upd_self] at m7
  refine .end _ h7 ⟨rfl, f7, m7⟩ fun d L xs o g Q T hq => sm_193 (M1.use (sm_193_11 rfl rfl rfl (am_ift ya ?_)))
  rw [wrp_gi h' 64 _ (show (35 : Nat) ≠ 36 by decide), wrp_gj, ← hmm]
  refine am_ift bl (G4 (d + 10) L xs o g _ _ (sm_193_67 rfl rfl (G5 d L xs o g _ _ (sm_193_71 rfl rfl (M6.use (sm_193_87 rfl rfl rfl (G7 (d + 10) L xs o g _ _ (sm_193_93 rfl rfl rfl rfl rfl ⟨a0, ?_⟩))))))))
  have eg : (Int32.ofNat (gNo (wtF h 0) (upd nd s ((m + h 8 s * (h 30 s / 10)) + h 12 1)) (arN h) (syN h) B W n) - 1) - (Int32.ofNat (gNo (wtF h 0) nd (arN h) (syN h) B W n) - 1) = gf m := by
    rw [hgf]
    show _ = Int32.ofNat (gNo (wtF h 0) (upd nd s ((m + h 8 s * (h 30 s / 10)) + h 12 1)) (arN h) (syN h) B W n) - Int32.ofNat (gNo (wtF h 0) nd (arN h) (syN h) B W n)
    grind
  rw [eg]
  exact hq
theorem PC.k61 {ar sy : Nat → Nat} {wt : Nat → Nat → Nat → Int32} {nd : Nat → Int32} (H : PC h n B W ar sy wt nd) (q : Int32 × Int32) : PC (wrp h 61 0 1 q) n B W ar sy wt nd := by
  obtain ⟨hc, hw, hn, hp, h10, ha, hl⟩ := H
  have n5 := hc.1.1
  exact ⟨hc, fun s b x a1 a2 a3 => by rw [wrp_c _ _ _ _ (by omega)]; exact hw s b x a1 a2 a3, hn, hp, h10, ha, hl⟩
theorem plan_PC (hc : plc h n B W (arN h) (syN h)) {h1 : am_M} {a0 : Nat → Nat} (H : plan h h1 p 0 n B W N (srR (wtF h 0) (fun s => neK h p (Int32.ofNat s) (-1) N) (arN h) (syN h) B W n (0, a0))) : PC h1 n B W (arN h) (syN h) (wtF h 0) (fun s => neK h p (Int32.ofNat s) (-1) N) := by
  obtain ⟨q1, q2, q3, q4, q5, q6, q7, q8⟩ := H
  have c1 := (sr_pos (wt := wtF h 0) (nd := fun s => neK h p (Int32.ofNat s) (-1) N) (ar := arN h) (sy := syN h) (B := B) (W := W) (n := n) (a0 := a0)).1
  rw [sr_N, Nat.max_eq_right (Nat.zero_le _)] at q5
  exact ⟨hc.fr q1 (fun _ => rfl) rfl (fun _ => rfl) (fun _ => rfl), q2, q3, q4, q5, ⟨_, q8 c1⟩, .inl q6⟩
theorem mv_99v {h1 : am_M} {s : Int32} (hN : N ≤ 80) (e1 : h1 23 0 = Int32.ofNat N) (hs : am_ix s 5) : mv 2 99 [some (.ref 0), some (.int p), some (.int s)] h1 none (wrp h1 61 0 1 (spK h1 p s (-1) N)) := by
  have := mv_99w (p := p) (h1 61 0, h1 61 1) hN e1 hs
  rw [w_self] at this
  exact this
theorem xG_I {k j : Nat} (h : xI k j = false) : xG k j = false := by
  cases hc : xG k j with
  | false => rfl
  | true =>
    exfalso
    unfold xG at hc
    unfold xI at h
    simp only [Bool.or_eq_true, Bool.and_eq_true, Nat.ble_eq] at hc
    simp only [Bool.or_eq_false_iff, Bool.and_eq_false_iff] at h
    rcases h.1 with h1 | h1
    · have := Nat.ble_eq_true_of_le (show 45 ≤ k by omega); rw [this] at h1; cases h1
    · have := Nat.ble_eq_true_of_le (show k ≤ 61 by omega); rw [this] at h1; cases h1
/-- worthOfLead, when the span stands -/
theorem mx_104w (hI : Iv h) (hc : plc h n B W (arN h) (syN h)) (hN : N ≤ 80) (e1 : h 23 0 = Int32.ofNat N) {s : Nat} {z : Int32} (hs : s < n) (z0 : ¬ z < 1) (z1 : ¬ 60 < z) {h1 : am_M} (f : fr xI h h1) (H : PC h1 n B W (arN h) (syN h) (wtF h 0) (fun s => neK h p (Int32.ofNat s) (-1) N)) (k0 : h1 61 0 = (spK h p (Int32.ofNat s) (-1) N).1) (k1 : h1 61 1 = (spK h p (Int32.ofNat s) (-1) N).2) : mx 17 104 0 [some (.ref 0), some (.int (Int32.ofNat s)), some (.int z), none, none, none, none] [] h1 (fun w h2 => w = some (.int (woV h p n B W N s z)) ∧ fr xI h h2 ∧ (h2 61 0 = h1 61 0 ∧ h2 61 1 = h1 61 1) ∧ PC h2 n B W (arN h) (syN h) (wtF h 0) (fun s => neK h p (Int32.ofNat s) (-1) N)) := by
  have hn5 := hc.1.1
  have sn0 := nat_n0 (k := s) (by omega)
  have sn1 : Int32.ofNat s < h 3 0 := by rw [hc.2.1.1, nz_nlt (by omega) (by omega)]; exact hs
  obtain ⟨l0, l1, r0, r1⟩ := spK_b hI hN e1 (p := p) (but := -1) sn0 sn1
  obtain ⟨⟨_, _, _, _, _, _, _, _, r13, r14⟩, _, _, _⟩ := hI.sh sn0 sn1
  rw [nz_c s (by omega)] at r13 r14
  have hG : ¬ h 30 s < 0 ∧ ¬ 99 < h 30 s := by
    obtain ⟨_, _, ⟨_, _, _, _, _, hG, _⟩, _⟩ := hI
    exact ⟨(hG s (by omega)).2.2.2.1, (hG s (by omega)).2.2.2.2.1⟩
  have hb := hI.2.1.2.1
  obtain ⟨b0, b1, b2, b3, b4, b5, b6, b7, b8, b9, _⟩ := hb
  have e8 := f 8 s rfl
  have e30 := f 30 s rfl
  have e12 := f 12 1 rfl
  refine (mx_104 H (s := s) (z := z) hs z0 z1 (by rw [k0]; exact l0) (by rw [k1]; exact r1) (by rw [e8]; exact r13) (by rw [e8]; exact r14) (by rw [e30]; exact hG.1) (by rw [e30]; exact hG.2) (by rw [e12]; exact b8) (by rw [e12]; exact b9) (fun em => by
    show neK h p (Int32.ofNat s) (-1) N = _
    unfold neK ned
    rw [k0, k1] at em
    rw [if_neg em, k1, e8, e30, e12, nz_c s (by omega)])).mono ?_
  rintro w h2 ⟨rfl, g1, g2⟩
  refine ⟨?_, f.trans (g1.mono fun _ _ hk => xG_I hk), ⟨g1 61 0 rfl, g1 61 1 rfl⟩, g2⟩
  rw [k0, k1, e8, e30, e12]
  rfl
end
theorem op_worth {h : am_M} (hI : Iv h) (p s z : Int32) : opR 103 [some (.ref 0), some (.int p), some (.int s), some (.int z)] 192 [some (.ref 64), some (.int p), some (.int s), some (.int z)] cdN h := by
  have hI' := hI
  obtain ⟨hT, hP, ⟨N, hN, e1, e2, hE, hG, hJ, hS⟩, hII, hR, hK⟩ := hI'
  obtain ⟨p0, p1, p2, p3, p4, p5, p6⟩ := hP.1
  obtain ⟨b0, b1, b2, b3, b4, b5, b6, b7, b8, b9, b10, b11, b12, b13⟩ := hP.2.1
  have b3' : ¬ 5 < h 3 1 := by grind
  by_cases a1 : p < 0
  · exact op_fail hI (fun d L xs o g Q T hq => sm_103 (am_ift a1 (hq))) (fun d L xs o g Q T hq => sm_192 (am_ift a1 (hq)))
  by_cases a2 : p < h 3 1
  rotate_left
  · have n2 : h 68 1 - 1 < p := by rw [p1]; exact rq5n b2 b3' a2
    exact op_fail hI (fun d L xs o g Q T hq => sm_103 (am_iff a1 (am_iff a2 (hq)))) (fun d L xs o g Q T hq => sm_192 (am_iff a1 (am_ift n2 (hq))))
  have n2 : ¬ h 68 1 - 1 < p := by rw [p1]; exact rq5 b2 b3' a2
  by_cases a3 : s < 0
  · exact op_fail hI (fun d L xs o g Q T hq => sm_103 (am_iff a1 (am_ift a2 (am_ift a3 (hq))))) (fun d L xs o g Q T hq => sm_192 (am_iff a1 (am_iff n2 (am_ift a3 (hq)))))
  by_cases a4 : s < h 3 0
  rotate_left
  · have n4 : h 68 0 - 1 < s := by rw [p0]; exact rq5n b0 b1 a4
    exact op_fail hI (fun d L xs o g Q T hq => sm_103 (am_iff a1 (am_ift a2 (am_iff a3 (am_iff a4 (hq)))))) (fun d L xs o g Q T hq => sm_192 (am_iff a1 (am_iff n2 (am_iff a3 (am_ift n4 (hq))))))
  have n4 : ¬ h 68 0 - 1 < s := by rw [p0]; exact rq5 b0 b1 a4
  by_cases a5 : z < 1
  · exact op_fail2 hI (fun d L xs o g Q T hq => sm_103 (am_iff a1 (am_ift a2 (am_iff a3 (am_ift a4 (am_ift a5 (hq))))))) (fun d L xs o g Q T hq => sm_192 (am_iff a1 (am_iff n2 (am_iff a3 (am_iff n4 (am_ift a5 (hq)))))))
  by_cases a6 : 60 < z
  · exact op_fail2 hI (fun d L xs o g Q T hq => sm_103 (am_iff a1 (am_ift a2 (am_iff a3 (am_ift a4 (am_iff a5 (am_ift a6 (hq)))))))) (fun d L xs o g Q T hq => sm_192 (am_iff a1 (am_iff n2 (am_iff a3 (am_iff n4 (am_iff a5 (am_ift a6 (hq))))))))
  obtain ⟨n, B, W, hc⟩ := plc_of hI
  have hc' := hc
  obtain ⟨⟨hn5, hB5, hW2⟩, ⟨en, eB, eW⟩, hA⟩ := hc'
  have hsi := hI.sh a3 a4
  obtain ⟨k, hk, ek⟩ : ∃ k, k < n ∧ s = Int32.ofNat k := by
    have e : 0 ≤ s.toInt := by have q := a3; rw [nz_lt] at q; have : (0 : Int32).toInt = 0 := rfl; omega
    refine ⟨s.toNatClampNeg, ?_, nz_of e⟩
    have q := a4
    rw [nz_of e, en, nz_nlt (by have := hsi.2.2.2; omega) (by omega)] at q
    exact q
  obtain ⟨v1, h1, ⟨rfl, PL⟩, G1⟩ := mx_85 (day := 0) hI hc (p := p) hN e1 (fun _ => 0)
  have f1 : fr xI h h1 := PL.1.mono fun _ _ hk => xP_I hk
  have P1 := plan_PC hc PL
  have M1 := mv_99v (p := p) (h1 := h1) (s := s) hN (by rw [f1 23 0 rfl]; exact e1) hsi.2.1
  rw [(neK_fr f1 p s (-1) N).2] at M1
  have f2 : fr xI h (wrp h1 61 0 1 (spK h p s (-1) N)) := (f1.set 61 0 _ rfl).set 61 1 _ rfl
  have M2 := mx_104w hI hc hN e1 (s := k) (z := z) hk a5 a6 f2 (P1.k61 _) (by rw [← ek]; exact wrp_gi _ _ _ (by decide)) (by rw [← ek]; exact wrp_gj _ _ _ _ _)
  rw [← ek] at M2
  obtain ⟨v2, h2, ⟨rfl, f3, _, _⟩, G2⟩ := M2
  have f4 : fr xI h (am_set h2 64 3 0) := f3.set 64 3 _ rfl
  have hIm : Iv (am_set h2 64 3 0) := hI.fr f4
  have hcm := plcI hc f4
  obtain ⟨v4, h4, ⟨rfl, g4, m4⟩, G4⟩ := mx_181 hIm hcm (day := 0) (by decide) (by decide) (p := p) hN (by rw [f4 23 0 rfl]; exact e1)
  obtain ⟨v5, h5, ⟨rfl, g5, _⟩, G5⟩ := mx_184 (h0 := h4) ((mlc_of hIm hcm).fr g4 (fun _ => rfl) (fun _ => rfl) (fun _ => rfl)) m4 (fun _ => 0)
  rw [sr_N, Nat.max_eq_right (Nat.zero_le _)] at G5
  have M6 := mx_193 hIm hcm hN (by rw [f4 23 0 rfl]; exact e1) (p := p) (s := k) (z := z) hk a5 a6 (h' := h5) ((g4.or fun _ _ hk => xM_V hk).trans (g5.or fun _ _ hk => xB_V hk)) (fun s' b x a1 a2 a3 => by rw [g5 88 _ rfl]; exact m4 s' b x a1 a2 a3)
  rw [← ek] at M6
  obtain ⟨v6, h6, ⟨rfl, g6, _⟩, G6⟩ := M6
  have ew : woV (am_set h2 64 3 0) p n B W N k z = woV h p n B W N k z := by
    have q := fun s => (neK_fr f4 p s (-1) N).1
    unfold woV
    rw [(neK_fr f4 p (Int32.ofNat k) (-1) N).2, wtF_fr f4, (arN_fr f4).1, (arN_fr f4).2, f4 8 k rfl, f4 30 k rfl, f4 12 1 rfl]
    simp only [q]
  rw [ew] at G6
  have e681 : h2 68 1 = h 68 1 := f3 68 1 rfl
  have e680 : h2 68 0 = h 68 0 := f3 68 0 rfl
  have F6 : fr xI h h6 := f4.trans (g6.mono fun _ _ hk => xV_I hk)
  refine ⟨0, woV h p n B W N k z, woV h p n B W N k z, h2, h6, .v fun d L xs o g Q T hq => sm_103 (am_iff a1 (am_ift a2 (am_iff a3 (am_ift a4 (am_iff a5 (am_iff a6 (G1 (d + 33) L xs o g _ _ (sm_103_21 (M1.use (sm_103_28 rfl (G2 (d + 32) L xs o g _ _ (sm_103_34 rfl rfl rfl rfl hq)))))))))))), fun d L xs o g Q T hq => sm_192 (am_iff a1 (am_iff (by rw [e681]; exact n2) (am_iff a3 (am_iff (by rw [e680]; exact n4) (am_iff a5 (am_iff a6 (G4 (d + 44) L xs o g _ _ (sm_192_49 (G5 (d + 35) L xs o g _ _ (sm_192_57 rfl rfl rfl rfl (G6 (d + 34) L xs o g _ _ (sm_192_60 rfl rfl rfl rfl hq)))))))))))), hI.fr F6, ?_, fun _ => rfl, by decide⟩
  rw [g6 64 3 rfl]
  rfl
