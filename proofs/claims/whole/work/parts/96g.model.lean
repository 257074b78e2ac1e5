/-! ===== fits, waits, berths: the model ===== -/
def mlc (h : am_M) (n B W : Nat) (ar sy : Nat → Nat) : Prop := (n ≤ 5 ∧ B ≤ 5 ∧ W ≤ 2) ∧ (h 68 0 = Int32.ofNat n ∧ h 68 2 = Int32.ofNat B ∧ h 68 5 = Int32.ofNat W) ∧ ∀ s, s < n → h 71 s = Int32.ofNat (ar s) ∧ h 72 s = Int32.ofNat (sy s) ∧ ar s ≤ 23 ∧ 1 ≤ sy s ∧ sy s ≤ 12
theorem mlc_of {h : am_M} {n B W : Nat} {ar sy : Nat → Nat} (hI : Iv h) (hc : plc h n B W ar sy) : mlc h n B W ar sy := by
  obtain ⟨h1, ⟨en, eB, eW⟩, h5⟩ := hc
  obtain ⟨_, hP, _⟩ := hI
  obtain ⟨p0, p1, p2, p3, p4, p5, p6⟩ := hP.1
  refine ⟨h1, ⟨p0.trans en, p2.trans eB, p5.trans eW⟩, fun s hs => ?_⟩
  obtain ⟨⟨_, _, r3, r4, _⟩, _⟩ := hP.2.2.1 s (by omega) (by rw [en, nz_nlt (by omega) (by omega)]; omega)
  rw [← r3, ← r4]
  exact h5 s hs
theorem mlc.fr {X : Nat → Nat → Bool} {h0 h : am_M} {n B W : Nat} {ar sy : Nat → Nat} (H : mlc h0 n B W ar sy) (f : fr X h0 h) (x68 : ∀ j, X 68 j = false) (x71 : ∀ j, X 71 j = false) (x72 : ∀ j, X 72 j = false) : mlc h n B W ar sy := by
  obtain ⟨h1, ⟨h2, h3, h4⟩, h5⟩ := H
  refine ⟨h1, ⟨by rw [f 68 0 (x68 0)]; exact h2, by rw [f 68 2 (x68 2)]; exact h3, by rw [f 68 5 (x68 5)]; exact h4⟩, fun s hs => ?_⟩
  rw [f 71 s (x71 s), f 72 s (x72 s)]
  exact h5 s hs
def ft1 (W : Nat) (F : Nat → Nat → Nat → Bool) (s b x : Nat) : Int32 := bif decide (x ≤ W) && F s b x then 1 else 0
def mft (h : am_M) (n B W : Nat) (F : Nat → Nat → Nat → Bool) : Prop := ∀ s b x, s < n → b < B → x < 3 → h 88 ((s * 5 + b) * 3 + x) = ft1 W F s b x
theorem mv_177v {h : am_M} (hI : Iv h) {s b x day : Int32} (s0 : ¬ s < 0) (s1 : s < h 3 0) (b0 : ¬ b < 0) (b1 : b < h 3 2) (x0 : ¬ x < 0) (x1 : ¬ 500 < x) (d0 : ¬ day < 0) (d1 : ¬ 9999 < day) : mv 3 177 [some (.ref 64), some (.int s), some (.int b), some (.int x), some (.int day), some (.int (h 77 s.toNatClampNeg))] h (some (.int (if wtr h s b x day < ned (h 64 35, h 64 36) (h 8 s.toNatClampNeg) (h 30 s.toNatClampNeg) (h 12 1) then 0 else 1))) h := by
  have := mv_177w hI (sp := (h 64 35, h 64 36)) s0 s1 b0 b1 x0 x1 d0 d1
  rw [w_self] at this
  exact this
def x88 (k _ : Nat) : Bool := Nat.beq k 88
theorem x88_I {k j : Nat} (h : xI k j = false) : x88 k j = false := by
  unfold x88
  cases hc : Nat.beq k 88 with
  | false => rfl
  | true => rw [Nat.beq_eq] at hc; subst hc; cases h
section
variable {h : am_M} {n B W : Nat} {day : Int32}
/-- fits of a ship, by the span that stands -/
theorem mx_182 (hI : Iv h) (hc : plc h n B W (arN h) (syN h)) (d0 : ¬ day < 0) (d1 : ¬ 9999 < day) {s : Nat} (hs : s < n) {nd : Nat → Int32} (hnd : nd s = ned (h 64 35, h 64 36) (h 8 s) (h 30 s) (h 12 1)) : mx 4 182 0 [some (.ref 64), some (.int (Int32.ofNat s)), some (.int day), none, none] [] h (fun v h1 => v = none ∧ fr x88 h h1 ∧ (∀ b x, b < B → x < 3 → h1 88 ((s * 5 + b) * 3 + x) = ft1 W (plFt (wtF h day) nd) s b x) ∧ ∀ s' b' x', ¬ s' = s → b' < 5 → x' < 3 → h1 88 ((s' * 5 + b') * 3 + x') = h 88 ((s' * 5 + b') * 3 + x')) := by
  have hm := mlc_of hI hc
  obtain ⟨⟨hn5, hB5, hW2⟩, ⟨en, eB, eW⟩, hA⟩ := hm
  have ens := hc.2.1.1
  have eBs := hc.2.1.2.1
  have inner : ∀ (P : Option Value → am_M → Prop) (b : Nat), b < B → ∀ (r x : Nat) (h' : am_M), x + r = 3 → fr x88 h h' → (∀ b' x', b' < B → x' < 3 → (b' < b ∨ (b' = b ∧ x' < x)) → h' 88 ((s * 5 + b') * 3 + x') = ft1 W (plFt (wtF h day) nd) s b' x') → (∀ s' b' x', ¬ s' = s → b' < 5 → x' < 3 → h' 88 ((s' * 5 + b') * 3 + x') = h 88 ((s' * 5 + b') * 3 + x')) → (∀ h2 x2, fr x88 h h2 → (∀ b' x', b' < B → x' < 3 → b' < b + 1 → h2 88 ((s * 5 + b') * 3 + x') = ft1 W (plFt (wtF h day) nd) s b' x') → (∀ s' b' x', ¬ s' = s → b' < 5 → x' < 3 → h2 88 ((s' * 5 + b') * 3 + x') = h 88 ((s' * 5 + b') * 3 + x')) → mx 4 182 2 [some (.ref 64), some (.int (Int32.ofNat s)), some (.int day), some (.int (Int32.ofNat (b + 1))), some (.int x2)] [] h2 P) → mx 4 182 15 [some (.ref 64), some (.int (Int32.ofNat s)), some (.int day), some (.int (Int32.ofNat b)), some (.int (Int32.ofNat x))] [] h' P := by
    intro P b hb r
    induction r with
    | zero =>
      intro x h' hx hf hd ho K
      have : x = 3 := by omega
      subst this
      refine (K h' (Int32.ofNat 3) hf (fun b' x' a1 a2 a3 => hd b' x' a1 a2 (by omega)) ho).go fun d L xs o g Q T hx' => sm_182_15 (am_iff (by decide) ?_)
      rw [nz_succ]
      exact hx'
    | succ r ih =>
      intro x h' hx hf hd ho K
      have lt : Int32.ofNat x < 3 := by
        show Int32.ofNat x < Int32.ofNat 3
        rw [nz_nlt (by omega) (by decide)]; omega
      obtain ⟨i1, i2⟩ := f183_ix (s := s) (b := b) (x := x) (by omega) (by omega) (by omega)
      have put : ∀ z : Int32, z = ft1 W (plFt (wtF h day) nd) s b x → mx 4 182 15 [some (.ref 64), some (.int (Int32.ofNat s)), some (.int day), some (.int (Int32.ofNat b)), some (.int (Int32.ofNat (x + 1)))] [] (am_set h' 88 ((s * 5 + b) * 3 + x) z) P := fun z hz => ih (x + 1) _ (by omega) (hf.set 88 _ _ rfl) (fun b' x' a1 a2 a3 => by
        rw [as_get]
        by_cases e : (s * 5 + b') * 3 + x' = (s * 5 + b) * 3 + x
        · rw [if_pos ⟨rfl, e⟩]
          have e1 : b' = b := by omega
          have e2 : x' = x := by omega
          rw [e1, e2]
          exact hz
        · rw [if_neg (fun q => e q.2)]
          exact hd b' x' a1 a2 (by omega)) (fun s' b' x' a1 a2 a3 => by
        rw [as_get, if_neg (fun q => by have := q.2; omega)]
        exact ho s' b' x' a1 a2 a3) K
      by_cases c : W < x
      · refine (put 0 (by unfold ft1; rw [decide_eq_false (by omega)]; rfl)).go fun d L xs o g Q T hx' => sm_182_15 (am_ift lt ?_)
        rw [hf 68 5 rfl, eW]
        refine am_ift (by rw [nz_nlt (by omega) (by omega)]; exact c) ⟨i1, ?_⟩
        rw [i2, nz_succ, show vp_nar .boolean 0 = 0 from rfl]
        exact hx'
      · have hIh := hI.fr (hf.mono fun _ _ hk => x88_I hk)
        have e71 : h' 71 s = h 6 s := by
          rw [hf 71 s rfl, (hA s hs).1]
          exact (hc.2.2 s hs).1.symm
        have ea := hc.2.2 s hs
        have hv : ¬ h 6 s + Int32.ofNat x < 0 ∧ ¬ 500 < h 6 s + Int32.ofNat x := by
          rw [ea.1, ← Int32.ofNat_add]
          refine ⟨nat_n0 (by omega), ?_⟩
          show ¬ Int32.ofNat 500 < _
          rw [nz_nlt (by decide) (by omega)]
          omega
        have M := mv_177v (h := h') hIh (s := Int32.ofNat s) (b := Int32.ofNat b) (x := h 6 s + Int32.ofNat x) (day := day) (nat_n0 (by omega)) (by rw [hf 3 0 rfl, ens, nz_nlt (by omega) (by omega)]; omega) (nat_n0 (by omega)) (by rw [hf 3 2 rfl, eBs, nz_nlt (by omega) (by omega)]; omega) hv.1 hv.2 d0 d1
        rw [wtr_fr (hf.mono fun _ _ hk => x88_I hk), nz_c s (by omega), hf 64 35 rfl, hf 64 36 rfl, hf 8 s rfl, hf 30 s rfl, hf 12 1 rfl, ← hnd] at M
        by_cases cw : wtr h (Int32.ofNat s) (Int32.ofNat b) (h 6 s + Int32.ofNat x) day < nd s
        · rw [if_pos cw] at M
          refine (put 0 (by unfold ft1 plFt; rw [decide_eq_true (show x ≤ W by omega), decide_eq_false (fun q => q cw)]; rfl)).go fun d L xs o g Q T hx' => sm_182_15 (am_ift lt ?_)
          rw [hf 68 5 rfl, eW]
          refine am_iff (by rw [nz_nlt (by omega) (by omega)]; exact c) ⟨ix_n (by omega) (by decide), ix_n (by omega) (by decide), ?_⟩
          rw [nz_c s (by omega), e71]
          refine M.use (sm_182_65 (am_ift rfl ⟨i1, ?_⟩))
          rw [i2, nz_succ, show vp_nar .boolean 0 = 0 from rfl]
          exact hx'
        · rw [if_neg cw] at M
          refine (put 1 (by unfold ft1 plFt; rw [decide_eq_true (show x ≤ W by omega), decide_eq_true (show ¬ wtF h day s b x < nd s from cw)]; rfl)).go fun d L xs o g Q T hx' => sm_182_15 (am_ift lt ?_)
          rw [hf 68 5 rfl, eW]
          refine am_iff (by rw [nz_nlt (by omega) (by omega)]; exact c) ⟨ix_n (by omega) (by decide), ix_n (by omega) (by decide), ?_⟩
          rw [nz_c s (by omega), e71]
          refine M.use (sm_182_65 (am_iff (by decide) ⟨i1, ?_⟩))
          rw [i2, nz_succ, show vp_nar .boolean 1 = 1 from rfl]
          exact hx'
  have outer : ∀ (r b : Nat) (q4 : Option Value) (h' : am_M), am_nl q4 = true → b + r = B → fr x88 h h' → (∀ b' x', b' < B → x' < 3 → b' < b → h' 88 ((s * 5 + b') * 3 + x') = ft1 W (plFt (wtF h day) nd) s b' x') → (∀ s' b' x', ¬ s' = s → b' < 5 → x' < 3 → h' 88 ((s' * 5 + b') * 3 + x') = h 88 ((s' * 5 + b') * 3 + x')) → mx 4 182 2 [some (.ref 64), some (.int (Int32.ofNat s)), some (.int day), some (.int (Int32.ofNat b)), q4] [] h' (fun v h1 => v = none ∧ fr x88 h h1 ∧ (∀ b x, b < B → x < 3 → h1 88 ((s * 5 + b) * 3 + x) = ft1 W (plFt (wtF h day) nd) s b x) ∧ ∀ s' b' x', ¬ s' = s → b' < 5 → x' < 3 → h1 88 ((s' * 5 + b') * 3 + x') = h 88 ((s' * 5 + b') * 3 + x')) := by
    intro r
    induction r with
    | zero =>
      intro b q4 h' hq4 hb hf hd ho
      refine .end none h' ⟨rfl, hf, fun b x a1 a2 => hd b x a1 a2 (by omega), ho⟩ fun d L xs o g Q T hq => sm_182_2 hq4 ?_
      rw [hf 68 2 rfl, eB]
      exact am_iff (by rw [nz_nlt (by omega) (by omega)]; omega) hq
    | succ r ih =>
      intro b q4 h' hq4 hb hf hd ho
      refine (inner _ b (by omega) 3 0 h' (by omega) hf (fun b' x' a1 a2 a3 => hd b' x' a1 a2 (by omega)) ho (fun h2 x2 f1 f2 f3 => ih (b + 1) _ h2 rfl (by omega) f1 f2 f3)).go fun d L xs o g Q T hx => sm_182_2 hq4 ?_
      rw [hf 68 2 rfl, eB]
      exact am_ift (by rw [nz_nlt (by omega) (by omega)]; omega) hx
  exact (outer B 0 none h rfl (by omega) (fr.refl _ _) (fun b' x' a1 a2 a3 => by omega) (fun _ _ _ _ _ _ => rfl)).go fun d L xs o g Q T hx => sm_182 hx
def xM (k j : Nat) : Bool := Nat.beq k 88 || (Nat.beq k 64 && (Nat.beq j 35 || Nat.beq j 36))
theorem xM_I {k j : Nat} (h : xI k j = false) : xM k j = false := by
  cases hc : xM k j with
  | false => rfl
  | true =>
    exfalso
    unfold xM at hc
    simp only [Bool.or_eq_true, Bool.and_eq_true, Nat.beq_eq] at hc
    rcases hc with hc | ⟨hc, hj | hj⟩
    · subst hc; cases h
    · subst hc hj; cases h
    · subst hc hj; cases h
theorem x88_M {k j : Nat} (h : xM k j = false) : x88 k j = false := by
  unfold xM at h
  rw [Bool.or_eq_false_iff] at h
  exact h.1
/-- the model's span of a ship, from any heap -/
theorem mv_172v (hI : Iv h) {p s but : Int32} {M N : Nat} (hN : N ≤ 80) (e1 : h 23 0 = Int32.ofNat N) (hM : M ≤ N) (s0 : ¬ s < 0) (s1 : s < h 3 0) : mv 1 172 [some (.ref 64), some (.int p), some (.int s), some (.int (Int32.ofNat M)), some (.int but), none] h none (wrp h 64 35 36 (spK h p s but M)) := by
  have := mv_172w hI (p := p) (but := but) (h 64 35, h 64 36) hN e1 hM s0 s1
  rw [w_self] at this
  exact this
theorem Iv.ev {h : am_M} (hI : Iv h) {N : Nat} (hN : N ≤ 80) (e1 : h 23 0 = Int32.ofNat N) : h 64 28 = Int32.ofNat N := by
  obtain ⟨_, _, ⟨N', hN', e1', e2, _⟩, _⟩ := hI
  rw [e2, ← e1', e1]
theorem mx_181 (hI : Iv h) (hc : plc h n B W (arN h) (syN h)) (d0 : ¬ day < 0) (d1 : ¬ 9999 < day) {N : Nat} {p : Int32} (hN : N ≤ 80) (e1 : h 23 0 = Int32.ofNat N) : mx 5 181 0 [some (.ref 64), some (.int p), some (.int day), none] [] h (fun v h1 => v = none ∧ fr xM h h1 ∧ mft h1 n B W (plFt (wtF h day) (fun s => neK h p (Int32.ofNat s) (-1) N))) := by
  have hm := mlc_of hI hc
  obtain ⟨⟨hn5, hB5, hW2⟩, ⟨en, eB, eW⟩, hA⟩ := hm
  have e2 := hI.ev hN e1
  have lp : ∀ (r s : Nat) (h' : am_M), s + r = n → fr xM h h' → (∀ s' b x, s' < s → b < B → x < 3 → h' 88 ((s' * 5 + b) * 3 + x) = ft1 W (plFt (wtF h day) (fun s => neK h p (Int32.ofNat s) (-1) N)) s' b x) → mx 5 181 2 [some (.ref 64), some (.int p), some (.int day), some (.int (Int32.ofNat s))] [] h' (fun v h1 => v = none ∧ fr xM h h1 ∧ mft h1 n B W (plFt (wtF h day) (fun s => neK h p (Int32.ofNat s) (-1) N))) := by
    intro r
    induction r with
    | zero =>
      intro s h' hs hf hd
      have hse : s = n := by omega
      subst hse
      refine .end none h' ⟨rfl, hf, hd⟩ fun d L xs o g Q T hq => sm_181_2 ?_
      rw [hf 68 0 rfl, en]
      exact am_iff (by rw [nz_nlt (by omega) (by omega)]; omega) hq
    | succ r ih =>
      intro s h' hs hf hd
      have hfI := hf.mono fun _ _ hk => xM_I hk
      have hIh := hI.fr hfI
      have M := mv_172v (h := h') hIh (p := p) (s := Int32.ofNat s) (but := -1) hN (by rw [hf 23 0 rfl]; exact e1) (Nat.le_refl N) (nat_n0 (by omega)) (by rw [hf 3 0 rfl, hc.2.1.1, nz_nlt (by omega) (by omega)]; omega)
      rw [(neK_fr hfI p (Int32.ofNat s) (-1) N).2] at M
      have f2 : fr xM h (wrp h' 64 35 36 (spK h p (Int32.ofNat s) (-1) N)) := (hf.set 64 35 _ rfl).set 64 36 _ rfl
      have hI2 := hI.fr (f2.mono fun _ _ hk => xM_I hk)
      have hc2 : plc (wrp h' 64 35 36 (spK h p (Int32.ofNat s) (-1) N)) n B W (arN (wrp h' 64 35 36 (spK h p (Int32.ofNat s) (-1) N))) (syN (wrp h' 64 35 36 (spK h p (Int32.ofNat s) (-1) N))) := by
        have ea : arN (wrp h' 64 35 36 (spK h p (Int32.ofNat s) (-1) N)) = arN h := by
          funext t; unfold arN; rw [f2 6 t rfl]
        have es : syN (wrp h' 64 35 36 (spK h p (Int32.ofNat s) (-1) N)) = syN h := by
          funext t; unfold syN; rw [f2 7 t rfl]
        rw [ea, es]
        exact hc.fr f2 (fun _ => rfl) rfl (fun _ => rfl) (fun _ => rfl)
      obtain ⟨v, h3, ⟨rfl, g1, g2, g3⟩, G⟩ := mx_182 hI2 hc2 d0 d1 (s := s) (by omega) (nd := fun s => neK h p (Int32.ofNat s) (-1) N) (by
        show neK h p (Int32.ofNat s) (-1) N = ned (spK h p (Int32.ofNat s) (-1) N) (h' 8 s) (h' 30 s) (h' 12 1)
        rw [hf 8 s rfl, hf 30 s rfl, hf 12 1 rfl]
        unfold neK
        rw [nz_c s (by omega)])
      have ew : wtF (wrp h' 64 35 36 (spK h p (Int32.ofNat s) (-1) N)) day = wtF h day := by
        funext s' b' x'
        unfold wtF
        rw [wtr_fr (f2.mono fun _ _ hk => xM_I hk), f2 6 s' rfl]
      rw [ew] at g2
      refine (ih (s + 1) h3 (by omega) (f2.trans (g1.mono fun _ _ hk => x88_M hk)) (fun s' b x a1 a2 a3 => ?_)).go fun d L xs o g Q T hx => sm_181_2 ?_
      · by_cases e : s' = s
        · subst e; exact g2 b x a2 a3
        · rw [g3 s' b x e (by omega) a3, wrp_c _ _ _ _ (by decide)]
          exact hd s' b x (by omega) a2 a3
      · rw [hf 68 0 rfl, en, hf 64 28 rfl, e2]
        refine am_ift (by rw [nz_nlt (by omega) (by omega)]; omega) (M.use (sm_181_23 (G d L xs o g _ _ (sm_181_29 ?_))))
        rw [nz_succ]
        exact hx
  exact (lp n 0 h (by omega) (fr.refl _ _) (fun s' b x a1 a2 a3 => by omega)).go fun d L xs o g Q T hx => sm_181 hx
end
