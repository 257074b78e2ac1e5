/-! ===== the text: the class ===== -/
def cS (h : am_M) : am_M := (am_set (am_set (am_set (am_set (am_set (am_set (am_set (am_set (am_set (am_set (am_set (am_set (am_set (am_set (am_set (am_set (am_set (am_set (am_cpy (am_cpy (am_cpy (am_cpy (am_cpy (am_cpy (am_cpy (am_cpy (am_cpy (am_set (am_set (am_set h 3 0 (h 13 0)) 3 1 (h 13 1)) 3 2 (h 13 2)) 14 4 0 0 5) 15 5 0 0 5) 16 6 0 0 5) 17 7 0 0 5) 18 8 0 0 5) 19 9 0 0 5) 20 10 0 0 5) 21 11 0 0 5) 22 12 0 0 4) 23 0 0) 30 0 0) 31 0 0) 32 0 60) 30 1 0) 31 1 0) 32 1 60) 30 2 0) 31 2 0) 32 2 60) 30 3 0) 31 3 0) 32 3 60) 30 4 0) 31 4 0) 32 4 60) 0 5 0) 0 11 0)
def cI (h : am_M) (x2 : Int32) : am_M := (am_set (am_set (am_set (am_set (am_set (am_set (am_set (am_set (am_set (am_set (am_set (am_set (am_set h 13 0 0) 13 1 0) 13 2 0) 22 0 0) 22 1 0) 22 2 0) 22 3 0) 1 0 0) 1 4 x2) 1 5 0) 1 3 0) 1 1 (-1)) 1 8 0)
section
variable {V K : Nat → Int32} {n p : Nat}
theorem itE_one (hp : p ≤ n) (hs : tkS K n p < n) : ∀ i, p + 1 ≤ itE K n p (i + 1)
  | 0 => by
    have a := tkE_le (K := K) hp
    have b := tkS_le (K := K) hp
    show p + 1 ≤ tkE K n p
    have := a.2.2 hs
    omega
  | i + 1 => by
    have a := itE_one hp hs i
    have b := (itE_le (K := K) hp (i + 1)).2
    have c := tkE_le (K := K) b
    have d := tkS_le (K := K) b
    show p + 1 ≤ tkE K n (itE K n p (i + 1))
    omega
theorem hd_it (st : pst) : ∃ i, (spHd V K n p st).1 = itE K n p i := by
  have a : ∃ i, (spShip V K n p st).1 = itE K n p i := by
    unfold spShip
    by_cases c : st.1.1 < 5
    · rw [if_pos c]
      unfold sq4
      cases isW V K n (am_txt 1) (itE K n p 5) with
      | true => exact ⟨7, rfl⟩
      | false => exact ⟨5, rfl⟩
    · rw [if_neg c]; exact ⟨0, rfl⟩
  have b : ∃ i, (spPers K n p st).1 = itE K n p i := by
    unfold spPers
    by_cases c : st.1.2.1 < 4
    · rw [if_pos c]; exact ⟨1, rfl⟩
    · rw [if_neg c]; exact ⟨0, rfl⟩
  have c : ∀ k, ∃ i, (spBerth V K n p k st).1 = itE K n p i := fun k => by
    unfold spBerth
    by_cases c : st.1.2.2.1 < 5
    · rw [if_pos c]
      unfold bq2
      cases isW V K n (am_txt 4) (itE K n p 2) with
      | true => exact ⟨4, rfl⟩
      | false => exact ⟨2, rfl⟩
    · rw [if_neg c]; exact ⟨0, rfl⟩
  have d : ∀ k t, ∃ i, (spSet V K n p k t st).1 = itE K n p i := fun k t => by
    unfold spSet
    cases st.1.2.2.2.testBit k with
    | true => exact ⟨0, rfl⟩
    | false => exact ⟨2, rfl⟩
  unfold spHd
  cases isW V K n (am_txt 0) p with
  | true => exact a
  | false =>
    cases isW V K n (am_txt 2) p with
    | true => exact b
    | false =>
      cases isW V K n (am_txt 3) p with
      | true => exact c 0
      | false =>
        cases isW V K n (am_txt 5) p with
        | true => exact c 1
        | false =>
          cases isW V K n (am_txt 6) p with
          | true => exact c 2
          | false =>
            cases isW V K n (am_txt 7) p with
            | true => exact d 0 40
            | false =>
              cases isW V K n (am_txt 8) p with
              | true => exact d 1 20
              | false =>
                cases isW V K n (am_txt 9) p with
                | true => exact d 2 2
                | false =>
                  cases isW V K n (am_txt 10) p with
                  | true => exact d 3 999
                  | false => exact ⟨0, rfl⟩
theorem ln_adv (hp : p ≤ n) (hk : ¬ tkK K n p = 0) (st : pst) : p + 1 ≤ (spLn V K n p st).1 := by
  have hs : tkS K n p < n := by
    apply Classical.byContradiction
    intro c
    exact hk (by unfold tkK; rw [if_neg c])
  obtain ⟨i, hi⟩ := hd_it (V := V) (K := K) (n := n) (p := p) st
  show p + 1 ≤ tkE K n (spHd V K n p st).1
  rw [hi]
  exact itE_one hp hs i
end
/-- no fault: the place is -1 -/
def fz (φ : pft) : Prop := φ.1 = 0 → φ = (0, -1)
theorem fz0 : fz (0, -1) := fun _ => rfl
theorem fz1 {f x : Int32} (h : ¬ f = 0) : fz (f, x) := fun e => absurd e h
theorem fzN {V K : Nat → Int32} {n p : Nat} {lo hi : Int32} {φ : pft} (h : fz φ) : fz (cNf V K n p lo hi φ) := by
  unfold cNf
  cases okN V K n p lo hi with
  | true => exact h
  | false =>
    rw [cond_false]
    by_cases c : φ.1 = 0
    · rw [if_pos c]
      refine fz1 ?_
      split <;> decide
    · rw [if_neg c]; exact h
theorem fz_hd {V K : Nat → Int32} {n p : Nat} (st : pst) : fz (spHd V K n p st).2.2 := by
  have s3 : fz (sf3 V K n p) := fzN (fzN (fzN (fzN fz0)))
  have a : fz (spShip V K n p st).2.2 := by
    unfold spShip
    by_cases c : st.1.1 < 5
    · rw [if_pos c]
      show fz (sf4 V K n p)
      unfold sf4
      cases isW V K n (am_txt 1) (itE K n p 5) with
      | true => exact fzN s3
      | false => exact s3
    · rw [if_neg c]; exact fz1 (by decide)
  have b : fz (spPers K n p st).2.2 := by
    unfold spPers
    by_cases c : st.1.2.1 < 4
    · rw [if_pos c]; exact fz0
    · rw [if_neg c]; exact fz1 (by decide)
  have c : ∀ k, fz (spBerth V K n p k st).2.2 := fun k => by
    unfold spBerth
    by_cases c : st.1.2.2.1 < 5
    · rw [if_pos c]
      show fz (bf2 V K n p)
      unfold bf2
      cases isW V K n (am_txt 4) (itE K n p 2) with
      | true => exact fzN (fzN fz0)
      | false => exact fzN fz0
    · rw [if_neg c]; exact fz1 (by decide)
  have d : ∀ k t, fz (spSet V K n p k t st).2.2 := fun k t => by
    unfold spSet
    cases st.1.2.2.2.testBit k with
    | true => exact fz1 (by decide)
    | false => exact fzN fz0
  unfold spHd
  cases isW V K n (am_txt 0) p with
  | true => exact a
  | false =>
    cases isW V K n (am_txt 2) p with
    | true => exact b
    | false =>
      cases isW V K n (am_txt 3) p with
      | true => exact c 0
      | false =>
        cases isW V K n (am_txt 5) p with
        | true => exact c 1
        | false =>
          cases isW V K n (am_txt 6) p with
          | true => exact c 2
          | false =>
            cases isW V K n (am_txt 7) p with
            | true => exact d 0 40
            | false =>
              cases isW V K n (am_txt 8) p with
              | true => exact d 1 20
              | false =>
                cases isW V K n (am_txt 9) p with
                | true => exact d 2 2
                | false =>
                  cases isW V K n (am_txt 10) p with
                  | true => exact d 3 999
                  | false => exact fz1 (by decide)
theorem fz_ln {V K : Nat → Int32} {n p : Nat} (st : pst) : fz (spLn V K n p st).2.2 := by
  unfold spLn spEn
  show fz (if (spHd V K n p st).2.2.1 = 0 ∧ ¬ tkK K n (spHd V K n p st).1 = 3 then (1, Int32.ofNat (tkS K n (spHd V K n p st).1)) else (spHd V K n p st).2.2)
  split
  · exact fz1 (by decide)
  · exact fz_hd st
section
variable {h0 : am_M} {n : Nat}
theorem lp_25 {q2 : Option Value} (hq2 : am_nl q2 = true) : ∀ (m p i : Nat) (st : pst) (X h : am_M), n + 1 ≤ p + m → i ≤ p → RS h0 n X h p (0, -1) → rC X st → mx 5 25 40 [some (.ref 1), some (.ref 13), q2, some (.int (Int32.ofNat i))] [] h (fun v h1 => v = some (.int (spAll (h0 2) (kdC h0) n m p st).2.1) ∧ fr xC h0 h1 ∧ h1 1 1 = (spAll (h0 2) (kdC h0) n m p st).2.2 ∧ ((spAll (h0 2) (kdC h0) n m p st).2.1 = 0 → ∃ X', (∀ k j, 13 ≤ k → k ≤ 22 → h1 k j = X' k j) ∧ rC X' (spAll (h0 2) (kdC h0) n m p st).1)) := by
  intro m
  induction m with
  | zero =>
    intro p i st X h hm hi H
    have := H.2.1.1
    omega
  | succ m ih =>
    intro p i st X h hm hi H hr
    have hp := H.2.1.1
    have hn := H.2.1.2.1
    have ni : ¬ 500 < Int32.ofNat i := by
      show ¬ Int32.ofNat 500 < Int32.ofNat i
      rw [nz_nlt (by decide) (by omega)]; omega
    have f0 : h 1 3 = 0 := H.f
    simp only [spAll]
    by_cases c : tkK (kdC h0) n p = 0
    · rw [if_pos c]
      refine .end (some (.int 0)) h ⟨rfl, H.1, H.pl, fun _ => ⟨X, H.2.2.2.2.1, hr⟩⟩ fun d L xs o g Q T hq => sm_25_40 hq2 (am_iff ni (am_ift (H.e7.trans c) ?_))
      rw [f0]
      exact hq
    rw [if_neg c]
    obtain ⟨v, h1, ⟨rfl, X1, R1, r1⟩, G⟩ := mx_29 H hr
    have adv := ln_adv (V := h0 2) (K := kdC h0) hp c st
    have run : ∀ {d L : Nat} {xs : Nat → Int32} {o : am_L} {g : Nat} {Q : Option Value → am_M → am_L → Nat → Prop} {T : Nat → am_M → am_L → Nat → Prop}, am_X L xs (d + 5) 25 40 [some (.ref 1), some (.ref 13), q2, some (.int (Int32.ofNat (i + 1)))] [] am_C0 h1 o g Q T → am_X L xs (d + 5) 25 40 [some (.ref 1), some (.ref 13), q2, some (.int (Int32.ofNat i))] [] am_C0 h o g Q T := fun {d L xs o g Q T} hx => by
      refine sm_25_40 hq2 (am_iff ni (am_iff (by rw [H.e7]; exact c) (am_ift f0 (G d L xs o g _ _ (sm_25_66 hq2 ?_)))))
      rw [nz_succ]
      exact hx
    by_cases c2 : (spLn (h0 2) (kdC h0) n p st).2.2.1 = 0
    · rw [if_pos c2]
      have e0 : (spLn (h0 2) (kdC h0) n p st).2.2 = (0, -1) := fz_ln st c2
      rw [e0] at R1
      exact (ih (spLn (h0 2) (kdC h0) n p st).1 (i + 1) (spLn (h0 2) (kdC h0) n p st).2.1 X1 h1 (by omega) (by omega) R1 r1).go fun d L xs o g Q T hx => run hx
    · rw [if_neg c2]
      refine .end (some (.int (spLn (h0 2) (kdC h0) n p st).2.2.1)) h1 ⟨rfl, R1.1, R1.pl, fun e => absurd e c2⟩ fun d L xs o g Q T hq => run (sm_25_40 hq2 ?_)
      have f1 := R1.f
      have p1 := R1.2.1.1
      rw [f1]
      have nj : ¬ 500 < Int32.ofNat (i + 1) := by
        show ¬ Int32.ofNat 500 < Int32.ofNat (i + 1)
        rw [nz_nlt (by decide) (by omega)]; omega
      refine am_iff nj ?_
      by_cases c3 : h1 1 7 = 0
      · exact am_ift c3 hq
      · exact am_iff c3 (am_iff c2 hq)
end
def st0 : pst := ((0, 0, 0, 0), fun _ _ => 0)
def xD (k j : Nat) : Bool := (Nat.beq k 1 && (Nat.beq j 0 || Nat.beq j 4)) || xC k j
theorem xC_D {k j : Nat} (h : xC k j = true) : xD k j = true := by unfold xD; rw [h, Bool.or_true]
theorem cI_fr (h : am_M) (x : Int32) : fr xD h (cI h x) := by
  unfold cI
  exact (((((((((((((fr.refl _ _).set 13 0 _ rfl).set 13 1 _ rfl).set 13 2 _ rfl).set 22 0 _ rfl).set 22 1 _ rfl).set 22 2 _ rfl).set 22 3 _ rfl).set 1 0 _ rfl).set 1 4 _ rfl).set 1 5 _ rfl).set 1 3 _ rfl).set 1 1 _ rfl).set 1 8 _ rfl
/-- what the class makes of the first n bytes -/
theorem cls_24 {h : am_M} {n : Nat} (hn : n ≤ 500) (hx1 : ¬ h 1 0 < Int32.ofNat n) : ∃ h', fr xD h h' ∧ h' 1 0 = 0 ∧ h' 1 1 = (spAll (h 2) (kdC h) n (n + 1) 0 st0).2.2 ∧ ((spAll (h 2) (kdC h) n (n + 1) 0 st0).2.1 = 0 → ∃ X', (∀ k j, 13 ≤ k → k ≤ 22 → h' k j = X' k j) ∧ rC X' (spAll (h 2) (kdC h) n (n + 1) 0 st0).1) ∧ (if (spAll (h 2) (kdC h) n (n + 1) 0 st0).2.1 = 0 then mv 50 24 [some (.ref 0), some (.int (Int32.ofNat n)), none] h (some (.int 0)) (cS h') else mv 50 24 [some (.ref 0), some (.int (Int32.ofNat n)), none] h (some (.int (spAll (h 2) (kdC h) n (n + 1) 0 st0).2.1)) (am_set h' 33 0 (h' 33 0 + 1))) := by
  have fI := cI_fr h (Int32.ofNat n)
  obtain ⟨k1, k2⟩ := kdC_fr fI (fun _ => rfl)
  have e4 : (cI h (Int32.ofNat n)) 1 4 = Int32.ofNat n := rfl
  obtain ⟨v1, h1, ⟨rfl, g1, g5, g6, g7⟩, G1⟩ := mx_27 (h := cI h (Int32.ofNat n)) hn e4 n 0 (cI h (Int32.ofNat n)) (by omega) (fr.refl _ _) rfl
  have gN := g1.or fun _ _ hk => x1t_n hk
  obtain ⟨q1, q2⟩ := kdC_fr g1 (fun _ => rfl)
  have R : RS (cI h (Int32.ofNat n)) n (cI h (Int32.ofNat n)) h1 0 (0, -1) := by
    refine ⟨gN.or fun _ _ hk => x1n_C hk, ⟨by omega, hn, e4⟩, ?_, ?_, fun k j a b => gN k j (x1n_13 a), g1 1 8 rfl⟩
    · unfold tkC; rw [q1]; exact ⟨g5, g6, g7⟩
    · rw [g1 1 3 rfl, g1 1 1 rfl]; rfl
  have hr : rC (cI h (Int32.ofNat n)) st0 := ⟨⟨rfl, rfl, rfl, rfl⟩, ⟨by decide, by decide, by decide, by decide⟩, fun j hj => absurd hj (Nat.not_lt_zero j), fun j hj => absurd hj (Nat.not_lt_zero j), fun j hj => by
    have e : j = 0 ∨ j = 1 ∨ j = 2 ∨ j = 3 := by omega
    rcases e with e | e | e | e <;> subst e <;> rfl⟩
  obtain ⟨v2, h2, ⟨rfl, f2, p2, d2⟩, G2⟩ := lp_25 (q2 := some (.int (Int32.ofNat n))) rfl (n + 1) 0 0 st0 _ h1 (by omega) (by omega) R hr
  rw [k1, k2] at p2 d2 G2
  refine ⟨h2, fI.trans (f2.or fun _ _ hk => xC_D hk), (f2 1 0 rfl).trans rfl, p2, d2, ?_⟩
  have n0 := nat_n0 (k := n) (by omega)
  by_cases c : (spAll (h 2) (kdC h) n (n + 1) 0 st0).2.1 = 0
  · rw [if_pos c]
    exact fun d L xs o g Q T hq => sm_24 (am_iff n0 (am_iff hx1 (sm_25 (G1 (d + 47) L xs o g _ _ (sm_25_38 rfl rfl (G2 (d + 44) L xs o g _ _ (sm_24_37 rfl rfl (am_ift c hq))))))))
  · rw [if_neg c]
    exact fun d L xs o g Q T hq => sm_24 (am_iff n0 (am_iff hx1 (sm_25 (G1 (d + 47) L xs o g _ _ (sm_25_38 rfl rfl (G2 (d + 44) L xs o g _ _ (sm_24_37 rfl rfl (am_iff c hq))))))))
