/-! ===== best ===== -/
def bsD (f : Nat → Int32) (s : Nat) : Nat → Nat → Int32 × Int32 → Int32 × Int32
  | _, 0, st => st
  | d, m + 1, st => bsD f s (d + 1) m (if st.2 < f d then (100 * Int32.ofNat s + Int32.ofNat d, f d) else st)
def bsS (hl : Nat → Bool) (f : Nat → Nat → Int32) : Nat → Nat → Int32 × Int32 → Int32 × Int32
  | _, 0, st => st
  | s, r + 1, st => bsS hl f (s + 1) r (bif hl s then st else bsD (f s) s 1 60 st)
def agB (w : Int32) (st : Int32 × Int32) : Int32 := if w = 0 then st.1 else st.2
theorem hl_cf {h h1 : am_M} (f : fr xI h h1) (p s : Int32) : hl_c h1 p s = hl_c h p s := by
  funext k
  unfold hl_c
  rw [f.cell 24 (fun _ => rfl), f.cell 25 (fun _ => rfl), f.cell 26 (fun _ => rfl)]
theorem hl_mf {h h1 : am_M} (f : fr xI h h1) (p s : Int32) : hl_m h1 p s = hl_m h p s := by
  funext k
  unfold hl_m
  rw [f.cell 82 (fun _ => rfl), f.cell 83 (fun _ => rfl), f.cell 84 (fun _ => rfl)]
theorem d_b {d : Nat} (h1 : 1 ≤ d) (h2 : d ≤ 60) : ¬ Int32.ofNat d < 1 ∧ ¬ 60 < Int32.ofNat d := by
  refine ⟨?_, ?_⟩
  · show ¬ Int32.ofNat d < Int32.ofNat 1
    rw [nz_nlt (by omega) (by decide)]; omega
  · show ¬ Int32.ofNat 60 < Int32.ofNat d
    rw [nz_nlt (by decide) (by omega)]; omega
section
variable {h : am_M} {n B W N : Nat} {p w : Int32}
theorem lp_108d (hI : Iv h) (hc : plc h n B W (arN h) (syN h)) (hN : N ≤ 80) (e1 : h 23 0 = Int32.ofNat N) {s : Nat} (hs : s < n) {P : Option Value → am_M → Prop} : ∀ (m d : Nat) (st : Int32 × Int32) (q7 : Option Value) (h' : am_M), am_nl q7 = true → d + m = 61 → 1 ≤ d → fr xI h h' → PC h' n B W (arN h) (syN h) (wtF h 0) (fun s => neK h p (Int32.ofNat s) (-1) N) → h' 61 0 = (spK h p (Int32.ofNat s) (-1) N).1 → h' 61 1 = (spK h p (Int32.ofNat s) (-1) N).2 → (∀ h'' q6 q7, am_nl q6 = true → am_nl q7 = true → fr xI h h'' → PC h'' n B W (arN h) (syN h) (wtF h 0) (fun s => neK h p (Int32.ofNat s) (-1) N) → mx 18 108 26 [some (.ref 0), some (.int p), some (.int w), some (.int (bsD (fun d => woV h p n B W N s (Int32.ofNat d)) s d m st).1), some (.int (bsD (fun d => woV h p n B W N s (Int32.ofNat d)) s d m st).2), some (.int (Int32.ofNat (s + 1))), q6, q7] [] h'' P) → mx 18 108 61 [some (.ref 0), some (.int p), some (.int w), some (.int st.1), some (.int st.2), some (.int (Int32.ofNat s)), some (.int (Int32.ofNat d)), q7] [] h' P := by
  intro m
  induction m with
  | zero =>
    intro d st q7 h' h7 hd hd1 f H k0 k1 K
    have : d = 61 := by omega
    subst this
    refine (K h' (some (.int (Int32.ofNat 61))) q7 rfl h7 f H).go fun d L xs o g Q T hx => sm_108_61 h7 (am_ift (by decide) ?_)
    rw [nz_succ]
    exact hx
  | succ m ih =>
    intro d st q7 h' h7 hd hd1 f H k0 k1 K
    obtain ⟨b0, b1⟩ := d_b hd1 (show d ≤ 60 by omega)
    obtain ⟨v, h2, ⟨rfl, f2, ⟨k2, k3⟩, H2⟩, G⟩ := mx_104w hI hc hN e1 hs b0 b1 f H k0 k1
    simp only [bsD] at K
    by_cases c : st.2 < woV h p n B W N s (Int32.ofNat d)
    · rw [if_pos c] at K
      refine (ih (d + 1) _ (some (.int (woV h p n B W N s (Int32.ofNat d)))) h2 rfl (by omega) (by omega) f2 H2 (k2.trans k0) (k3.trans k1) K).go fun dd L xs o g Q T hx => sm_108_61 h7 (am_iff b1 (G dd L xs o g _ _ (sm_108_76 h7 (am_ift c ?_))))
      rw [nz_succ]
      exact hx
    · rw [if_neg c] at K
      refine (ih (d + 1) st (some (.int (woV h p n B W N s (Int32.ofNat d)))) h2 rfl (by omega) (by omega) f2 H2 (k2.trans k0) (k3.trans k1) K).go fun dd L xs o g Q T hx => sm_108_61 h7 (am_iff b1 (G dd L xs o g _ _ (sm_108_76 h7 (am_iff c ?_))))
      rw [nz_succ]
      exact hx
theorem lp_108 (hI : Iv h) (hc : plc h n B W (arN h) (syN h)) (hN : N ≤ 80) (e1 : h 23 0 = Int32.ofNat N) : ∀ (r s : Nat) (st : Int32 × Int32) (q6 q7 : Option Value) (h' : am_M), am_nl q6 = true → am_nl q7 = true → s + r = n → fr xI h h' → PC h' n B W (arN h) (syN h) (wtF h 0) (fun s => neK h p (Int32.ofNat s) (-1) N) → mx 18 108 26 [some (.ref 0), some (.int p), some (.int w), some (.int st.1), some (.int st.2), some (.int (Int32.ofNat s)), q6, q7] [] h' (fun v h1 => v = some (.int (agB w (bsS (fun s => anyF (hl_c h p (Int32.ofNat s)) 0 N) (fun s d => woV h p n B W N s (Int32.ofNat d)) s r st))) ∧ fr xI h h1) := by
  have hn5 := hc.1.1
  have en := hc.2.1.1
  intro r
  induction r with
  | zero =>
    intro s st q6 q7 h' h6 h7 hs f H
    refine .end _ h' ⟨rfl, f⟩ fun d L xs o g Q T hq => sm_108_26 h6 h7 ?_
    rw [f 3 0 rfl, en]
    refine am_iff (by rw [nz_nlt (by omega) (by omega)]; omega) ?_
    simp only [bsS] at hq
    unfold agB at hq
    by_cases c : w = 0
    · rw [if_pos c] at hq; exact am_ift c hq
    · rw [if_neg c] at hq; exact am_iff c hq
  | succ r ih =>
    intro s st q6 q7 h' h6 h7 hs f H
    have lt : Int32.ofNat s < Int32.ofNat n := by rw [nz_nlt (by omega) (by omega)]; omega
    have L1 := mv_68 (h := h') (p := p) (s := Int32.ofNat s) hN (by rw [f 23 0 rfl]; exact e1)
    rw [hl_cf f] at L1
    simp only [bsS]
    cases hl : anyF (hl_c h p (Int32.ofNat s)) 0 N with
    | true =>
      rw [hl, if_pos rfl] at L1
      rw [cond_true]
      refine (ih (s + 1) st q6 q7 h' h6 h7 (by omega) f H).go fun d L xs o g Q T hx => sm_108_26 h6 h7 ?_
      rw [f 3 0 rfl, en]
      refine am_ift lt (L1.use (sm_108_48 h6 h7 (am_iff (by decide) ?_)))
      rw [nz_succ]
      exact hx
    | false =>
      rw [hl, if_neg (by decide)] at L1
      rw [cond_false]
      have M1 := mv_99v (p := p) (h1 := h') (s := Int32.ofNat s) hN (by rw [f 23 0 rfl]; exact e1) (ix_n (by omega) (by decide))
      rw [(neK_fr f p (Int32.ofNat s) (-1) N).2] at M1
      have f2 : fr xI h (wrp h' 61 0 1 (spK h p (Int32.ofNat s) (-1) N)) := (f.set 61 0 _ rfl).set 61 1 _ rfl
      refine (lp_108d hI hc hN e1 (s := s) (by omega) 60 1 st q7 (wrp h' 61 0 1 (spK h p (Int32.ofNat s) (-1) N)) h7 (by omega) (by omega) f2 (H.k61 _) (wrp_gi _ _ _ (by decide)) (wrp_gj _ _ _ _ _) (fun h'' q6 q7 i6 i7 f3 H3 => ih (s + 1) _ q6 q7 h'' i6 i7 (by omega) f3 H3)).go fun d L xs o g Q T hx => sm_108_26 h6 h7 ?_
      rw [f 3 0 rfl, en]
      exact am_ift lt (L1.use (sm_108_48 h6 h7 (am_ift rfl (M1.use (sm_108_58 h6 h7 hx)))))
theorem lp_194d (hI : Iv h) (hc : plc h n B W (arN h) (syN h)) (hN : N ≤ 80) (e1 : h 23 0 = Int32.ofNat N) {s : Nat} (hs : s < n) {P : Option Value → am_M → Prop} : ∀ (m d : Nat) (st : Int32 × Int32) (q8 : Option Value) (h' : am_M), am_nl q8 = true → d + m = 61 → 1 ≤ d → fr xV h h' → mft h' n B W (plFt (wtF h 0) (fun s => neK h p (Int32.ofNat s) (-1) N)) → (∀ h'' q7 q8, am_nl q7 = true → am_nl q8 = true → fr xV h h'' → mft h'' n B W (plFt (wtF h 0) (fun s => neK h p (Int32.ofNat s) (-1) N)) → mx 16 194 48 [some (.ref 64), some (.int p), some (.int w), some (.int (Int32.ofNat (gNo (wtF h 0) (fun s => neK h p (Int32.ofNat s) (-1) N) (arN h) (syN h) B W n) - 1)), some (.int (bsD (fun d => woV h p n B W N s (Int32.ofNat d)) s d m st).1), some (.int (bsD (fun d => woV h p n B W N s (Int32.ofNat d)) s d m st).2), some (.int (Int32.ofNat (s + 1))), q7, q8] [] h'' P) → mx 16 194 75 [some (.ref 64), some (.int p), some (.int w), some (.int (Int32.ofNat (gNo (wtF h 0) (fun s => neK h p (Int32.ofNat s) (-1) N) (arN h) (syN h) B W n) - 1)), some (.int st.1), some (.int st.2), some (.int (Int32.ofNat s)), some (.int (Int32.ofNat d)), q8] [] h' P := by
  intro m
  induction m with
  | zero =>
    intro d st q8 h' h8 hd hd1 f hm K
    have : d = 61 := by omega
    subst this
    refine (K h' (some (.int (Int32.ofNat 61))) q8 rfl h8 f hm).go fun d L xs o g Q T hx => sm_194_75 h8 (am_ift (by decide) ?_)
    rw [nz_succ]
    exact hx
  | succ m ih =>
    intro d st q8 h' h8 hd hd1 f hm K
    obtain ⟨b0, b1⟩ := d_b hd1 (show d ≤ 60 by omega)
    obtain ⟨v, h2, ⟨rfl, f2, m2⟩, G⟩ := mx_193 hI hc hN e1 (p := p) hs b0 b1 f hm
    simp only [bsD] at K
    by_cases c : st.2 < woV h p n B W N s (Int32.ofNat d)
    · rw [if_pos c] at K
      refine (ih (d + 1) _ (some (.int (woV h p n B W N s (Int32.ofNat d)))) h2 rfl (by omega) (by omega) f2 m2 K).go fun dd L xs o g Q T hx => sm_194_75 h8 (am_iff b1 (G dd L xs o g _ _ (sm_194_92 h8 (am_ift c ?_))))
      rw [nz_succ]
      exact hx
    · rw [if_neg c] at K
      refine (ih (d + 1) st (some (.int (woV h p n B W N s (Int32.ofNat d)))) h2 rfl (by omega) (by omega) f2 m2 K).go fun dd L xs o g Q T hx => sm_194_75 h8 (am_iff b1 (G dd L xs o g _ _ (sm_194_92 h8 (am_iff c ?_))))
      rw [nz_succ]
      exact hx
theorem lp_194 (hI : Iv h) (hc : plc h n B W (arN h) (syN h)) (hN : N ≤ 80) (e1 : h 23 0 = Int32.ofNat N) : ∀ (r s : Nat) (st : Int32 × Int32) (q7 q8 : Option Value) (h' : am_M), am_nl q7 = true → am_nl q8 = true → s + r = n → fr xV h h' → mft h' n B W (plFt (wtF h 0) (fun s => neK h p (Int32.ofNat s) (-1) N)) → mx 16 194 48 [some (.ref 64), some (.int p), some (.int w), some (.int (Int32.ofNat (gNo (wtF h 0) (fun s => neK h p (Int32.ofNat s) (-1) N) (arN h) (syN h) B W n) - 1)), some (.int st.1), some (.int st.2), some (.int (Int32.ofNat s)), q7, q8] [] h' (fun v h1 => v = some (.int (agB w (bsS (fun s => anyF (hl_c h p (Int32.ofNat s)) 0 N) (fun s d => woV h p n B W N s (Int32.ofNat d)) s r st))) ∧ fr xV h h1) := by
  have hn5 := hc.1.1
  have en : h 68 0 = Int32.ofNat n := (mlc_of hI hc).2.1.1
  have e28 := hI.ev hN e1
  have hle : ∀ s, anyF (hl_m h p s) 0 N = anyF (hl_c h p s) 0 N := fun s => by
    obtain ⟨_, _, ⟨N', hN', e1', e2, hE, _⟩, _⟩ := hI
    have eN : N' = N := by rw [e1'] at e1; exact (nz_inj (by omega) (by omega)).1 e1
    subst eN
    exact hl_eq hE
  intro r
  induction r with
  | zero =>
    intro s st q7 q8 h' h7 h8 hs f hm
    refine .end _ h' ⟨rfl, f⟩ fun d L xs o g Q T hq => sm_194_48 h7 h8 ?_
    rw [f 68 0 rfl, en]
    refine am_iff (by rw [nz_nlt (by omega) (by omega)]; omega) ?_
    simp only [bsS] at hq
    unfold agB at hq
    by_cases c : w = 0
    · rw [if_pos c] at hq; exact am_ift c hq
    · rw [if_neg c] at hq; exact am_iff c hq
  | succ r ih =>
    intro s st q7 q8 h' h7 h8 hs f hm
    have fI := f.mono fun _ _ hk => xV_I hk
    have lt : Int32.ofNat s < Int32.ofNat n := by rw [nz_nlt (by omega) (by omega)]; omega
    have L1 := mv_166 (h := h') (p := p) (s := Int32.ofNat s) hN (by rw [fI 64 28 rfl]; exact e28)
    rw [hl_mf fI, hle] at L1
    simp only [bsS]
    cases hl : anyF (hl_c h p (Int32.ofNat s)) 0 N with
    | true =>
      rw [hl, if_pos rfl] at L1
      rw [cond_true]
      refine (ih (s + 1) st q7 q8 h' h7 h8 (by omega) f hm).go fun d L xs o g Q T hx => sm_194_48 h7 h8 ?_
      rw [f 68 0 rfl, en]
      refine am_ift lt (L1.use (sm_194_66 h7 h8 (am_iff (by decide) ?_)))
      rw [nz_succ]
      exact hx
    | false =>
      rw [hl, if_neg (by decide)] at L1
      rw [cond_false]
      refine (lp_194d hI hc hN e1 (s := s) (by omega) 60 1 st q8 h' h8 (by omega) (by omega) f hm (fun h'' q7 q8 i7 i8 f3 m3 => ih (s + 1) _ q7 q8 h'' i7 i8 (by omega) f3 m3)).go fun d L xs o g Q T hx => sm_194_48 h7 h8 ?_
      rw [f 68 0 rfl, en]
      exact am_ift lt (L1.use (sm_194_66 h7 h8 (am_ift rfl hx)))
theorem woV_fr {h1 : am_M} (f4 : fr xI h h1) (s : Nat) (z : Int32) : woV h1 p n B W N s z = woV h p n B W N s z := by
  have q := fun s => (neK_fr f4 p s (-1) N).1
  unfold woV
  rw [(neK_fr f4 p (Int32.ofNat s) (-1) N).2, wtF_fr f4, (arN_fr f4).1, (arN_fr f4).2, f4 8 s rfl, f4 30 s rfl, f4 12 1 rfl]
  simp only [q]
end
theorem op_best {h : am_M} (hI : Iv h) (p w : Int32) : opR 108 [some (.ref 0), some (.int p), some (.int w), none, none, none, none, none] 194 [some (.ref 64), some (.int p), some (.int w), none, none, none, none, none, none] cdN h := by
  have hI' := hI
  obtain ⟨hT, hP, ⟨N, hN, e1, e2, hE, hG, hJ, hS⟩, hII, hR, hK⟩ := hI'
  obtain ⟨p0, p1, p2, p3, p4, p5, p6⟩ := hP.1
  obtain ⟨b0, b1, b2, b3, b4, b5, b6, b7, b8, b9, b10, b11, b12, b13⟩ := hP.2.1
  have b3' : ¬ 5 < h 3 1 := by grind
  by_cases a1 : p < 0
  · exact op_fail hI (fun d L xs o g Q T hq => sm_108 (am_ift a1 (hq))) (fun d L xs o g Q T hq => sm_194 (am_ift a1 (hq)))
  by_cases a2 : p < h 3 1
  rotate_left
  · have n2 : h 68 1 - 1 < p := by rw [p1]; exact rq5n b2 b3' a2
    exact op_fail hI (fun d L xs o g Q T hq => sm_108 (am_iff a1 (am_iff a2 (hq)))) (fun d L xs o g Q T hq => sm_194 (am_iff a1 (am_ift n2 (hq))))
  have n2 : ¬ h 68 1 - 1 < p := by rw [p1]; exact rq5 b2 b3' a2
  by_cases a3 : w < 0
  · exact op_fail hI (fun d L xs o g Q T hq => sm_108 (am_iff a1 (am_ift a2 (am_ift a3 (hq))))) (fun d L xs o g Q T hq => sm_194 (am_iff a1 (am_iff n2 (am_ift a3 (hq)))))
  by_cases a4 : 1 < w
  · exact op_fail hI (fun d L xs o g Q T hq => sm_108 (am_iff a1 (am_ift a2 (am_iff a3 (am_ift a4 (hq)))))) (fun d L xs o g Q T hq => sm_194 (am_iff a1 (am_iff n2 (am_iff a3 (am_ift a4 (hq))))))
  obtain ⟨n, B, W, hc⟩ := plc_of hI
  obtain ⟨v1, h1, ⟨rfl, PL⟩, G1⟩ := mx_85 (day := 0) hI hc (p := p) hN e1 (fun _ => 0)
  have f1 : fr xI h h1 := PL.1.mono fun _ _ hk => xP_I hk
  have P1 := plan_PC hc PL
  obtain ⟨v2, h2, ⟨rfl, f3⟩, G2⟩ := lp_108 (w := w) hI hc hN e1 n 0 (-1, -1) none none h1 rfl rfl (by omega) f1 P1
  have f4 : fr xI h (am_set h2 64 3 0) := f3.set 64 3 _ rfl
  have hIm : Iv (am_set h2 64 3 0) := hI.fr f4
  have hcm := plcI hc f4
  have e1m : (am_set h2 64 3 0) 23 0 = Int32.ofNat N := by rw [f4 23 0 rfl]; exact e1
  obtain ⟨v4, h4, ⟨rfl, g4, m4⟩, G4⟩ := mx_181 hIm hcm (day := 0) (by decide) (by decide) (p := p) hN e1m
  obtain ⟨v5, h5, ⟨rfl, g5, _⟩, G5⟩ := mx_184 (h0 := h4) ((mlc_of hIm hcm).fr g4 (fun _ => rfl) (fun _ => rfl) (fun _ => rfl)) m4 (fun _ => 0)
  rw [sr_N, Nat.max_eq_right (Nat.zero_le _)] at G5
  obtain ⟨v6, h6, ⟨rfl, g6⟩, G6⟩ := lp_194 (w := w) hIm hcm hN e1m n 0 (-1, -1) none none h5 rfl rfl (by omega) ((g4.or fun _ _ hk => xM_V hk).trans (g5.or fun _ _ hk => xB_V hk)) (fun s' b x a1 a2 a3 => by rw [g5 88 _ rfl]; exact m4 s' b x a1 a2 a3)
  have ew : (fun s d => woV (am_set h2 64 3 0) p n B W N s (Int32.ofNat d)) = fun s d => woV h p n B W N s (Int32.ofNat d) := by
    funext s d
    exact woV_fr f4 s (Int32.ofNat d)
  have el : (fun s => anyF (hl_c (am_set h2 64 3 0) p (Int32.ofNat s)) 0 N) = fun s => anyF (hl_c h p (Int32.ofNat s)) 0 N := by
    funext s
    rw [hl_cf f4]
  rw [ew, el] at G6
  have e681 : h2 68 1 = h 68 1 := f3 68 1 rfl
  have F6 : fr xI h h6 := f4.trans (g6.mono fun _ _ hk => xV_I hk)
  refine ⟨0, _, _, h2, h6, .v fun d L xs o g Q T hq => sm_108 (am_iff a1 (am_ift a2 (am_iff a3 (am_iff a4 (G1 (d + 33) L xs o g _ _ (sm_108_17 rfl rfl rfl rfl rfl (G2 (d + 32) L xs o g _ _ hq))))))), fun d L xs o g Q T hq => sm_194 (am_iff a1 (am_iff (by rw [e681]; exact n2) (am_iff a3 (am_iff a4 (G4 (d + 44) L xs o g _ _ (sm_194_34 rfl rfl rfl rfl rfl rfl (G5 (d + 35) L xs o g _ _ (sm_194_38 rfl rfl rfl rfl rfl rfl (G6 (d + 34) L xs o g _ _ hq))))))))), hI.fr F6, ?_, fun _ => rfl, by decide⟩
  rw [g6 64 3 rfl]
  rfl
