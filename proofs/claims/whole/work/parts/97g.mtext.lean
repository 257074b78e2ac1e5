/-! ===== what a text without a fault tells keeps to its bounds; the text: the model ===== -/
def bdS (st : pst) : Prop := (∀ j, j < st.1.1 → ¬ st.2 0 j < 0 ∧ ¬ st.2 1 j < st.2 0 j ∧ ¬ 60 < st.2 1 j ∧ ¬ st.2 2 j < 0 ∧ ¬ 23 < st.2 2 j ∧ ¬ st.2 3 j < 1 ∧ ¬ 12 < st.2 3 j ∧ ¬ st.2 4 j < 0 ∧ ¬ 9 < st.2 4 j) ∧ (∀ j, j < st.1.2.2.1 → ¬ st.2 5 j < 0 ∧ ¬ 2 < st.2 5 j ∧ ¬ st.2 6 j < 0 ∧ ¬ 99 < st.2 6 j ∧ ¬ st.2 7 j < 0 ∧ ¬ 9 < st.2 7 j) ∧ ¬ st.2 8 0 < 0 ∧ ¬ 40 < st.2 8 0 ∧ ¬ st.2 8 1 < 0 ∧ ¬ 20 < st.2 8 1 ∧ ¬ st.2 8 2 < 0 ∧ ¬ 2 < st.2 8 2 ∧ ¬ st.2 8 3 < 0 ∧ ¬ 999 < st.2 8 3
section
variable {V K : Nat → Int32} {n p : Nat}
theorem cN_ok {lo hi : Int32} {φ : pft} (h : (cNf V K n p lo hi φ).1 = 0) : ¬ cNv V K n p lo hi < lo ∧ ¬ hi < cNv V K n p lo hi ∧ φ.1 = 0 := by
  have f0 := cNf_bk h
  cases ho : okN V K n p lo hi with
  | false =>
    exfalso
    unfold cNf at h
    rw [ho, cond_false, if_pos f0] at h
    by_cases c : tkK K n p = 2
    · rw [if_pos c] at h; exact absurd h (by decide : ¬ (2 : Int32) = 0)
    · rw [if_neg c] at h; exact absurd h (by decide : ¬ (1 : Int32) = 0)
  | true =>
    have ev : cNv V K n p lo hi = vlN V K n p := by unfold cNv; rw [ho, cond_true]
    unfold okN at ho
    simp only [Bool.and_eq_true, decide_eq_true_eq] at ho
    rw [ev]
    exact ⟨ho.2.2.1, ho.2.2.2, f0⟩
theorem sh_ok (h : (sf4 V K n p).1 = 0) : ¬ sv0 V K n p < 0 ∧ ¬ sv1 V K n p < sv0 V K n p ∧ ¬ 60 < sv1 V K n p ∧ ¬ sv2 V K n p < 0 ∧ ¬ 23 < sv2 V K n p ∧ ¬ sv3 V K n p < 1 ∧ ¬ 12 < sv3 V K n p ∧ ¬ sv4 V K n p < 0 ∧ ¬ 9 < sv4 V K n p := by
  have four : (sf3 V K n p).1 = 0 ∧ ¬ sv4 V K n p < 0 ∧ ¬ 9 < sv4 V K n p := by
    unfold sf4 at h
    unfold sv4
    cases hw : isW V K n (am_txt 1) (itE K n p 5) with
    | true =>
      rw [hw, cond_true] at h
      rw [cond_true]
      obtain ⟨a, b, c⟩ := cN_ok h
      exact ⟨c, a, b⟩
    | false =>
      rw [hw, cond_false] at h
      rw [cond_false]
      exact ⟨h, by decide, by decide⟩
  obtain ⟨z3, a4, b4⟩ := four
  obtain ⟨a3, b3, z2⟩ := cN_ok z3
  obtain ⟨a2, b2, z1⟩ := cN_ok z2
  obtain ⟨a1, b1, z0⟩ := cN_ok z1
  obtain ⟨a0, b0, _⟩ := cN_ok z0
  exact ⟨a0, a1, b1, a2, b2, a3, b3, a4, b4⟩
theorem bd_ship {st : pst} (hb : bdS st) (h : (spShip V K n p st).2.2.1 = 0) : bdS (spShip V K n p st).2.1 := by
  unfold spShip at h ⊢
  by_cases c : st.1.1 < 5
  · rw [if_pos c] at h ⊢
    obtain ⟨k1, k2, k3⟩ := hb
    have s := sh_ok h
    refine ⟨fun j hj => ?_, k2, k3⟩
    by_cases e : j = st.1.1
    · subst e
      simp [as_get]
      simpa using s
    · have hj' : j < st.1.1 := by have : j < st.1.1 + 1 := hj; omega
      have := k1 j hj'
      simp [as_get, e]
      simpa using this
  · rw [if_neg c] at h; exact absurd h (by decide : ¬ (2 : Int32) = 0)
theorem bd_pers {st : pst} (hb : bdS st) : bdS (spPers K n p st).2.1 := by
  unfold spPers
  by_cases c : st.1.2.1 < 4
  · rw [if_pos c]; exact hb
  · rw [if_neg c]; exact hb
theorem bd_berth {st : pst} {k : Int32} (k0 : ¬ k < 0) (k2 : ¬ 2 < k) (hb : bdS st) (h : (spBerth V K n p k st).2.2.1 = 0) : bdS (spBerth V K n p k st).2.1 := by
  unfold spBerth at h ⊢
  by_cases c : st.1.2.2.1 < 5
  · rw [if_pos c] at h ⊢
    obtain ⟨q1, q2, q3⟩ := hb
    have two : (bf1 V K n p).1 = 0 ∧ ¬ bv2 V K n p < 0 ∧ ¬ 9 < bv2 V K n p := by
      have h' : (bf2 V K n p).1 = 0 := h
      unfold bf2 at h'
      unfold bv2
      cases hw : isW V K n (am_txt 4) (itE K n p 2) with
      | true =>
        rw [hw, cond_true] at h'
        rw [cond_true]
        obtain ⟨a, b, c⟩ := cN_ok h'
        exact ⟨c, a, b⟩
      | false =>
        rw [hw, cond_false] at h'
        rw [cond_false]
        exact ⟨h', by decide, by decide⟩
    obtain ⟨z1, a2, b2⟩ := two
    obtain ⟨a1, b1, _⟩ := cN_ok z1
    have s : ¬ k < 0 ∧ ¬ 2 < k ∧ ¬ bv1 V K n p < 0 ∧ ¬ 99 < bv1 V K n p ∧ ¬ bv2 V K n p < 0 ∧ ¬ 9 < bv2 V K n p := ⟨k0, k2, a1, b1, a2, b2⟩
    refine ⟨q1, fun j hj => ?_, q3⟩
    by_cases e : j = st.1.2.2.1
    · subst e
      simp [as_get]
      simpa using s
    · have hj' : j < st.1.2.2.1 := by have : j < st.1.2.2.1 + 1 := hj; omega
      have := q2 j hj'
      simp [as_get, e]
      simpa using this
  · rw [if_neg c] at h; exact absurd h (by decide : ¬ (2 : Int32) = 0)
theorem bd_set0 {st : pst} (hb : bdS st) (h : (spSet V K n p 0 40 st).2.2.1 = 0) : bdS (spSet V K n p 0 40 st).2.1 := by
  unfold spSet at h ⊢
  cases hc : st.1.2.2.2.testBit 0 with
  | true => rw [hc, cond_true] at h; exact absurd h (by decide : ¬ (3 : Int32) = 0)
  | false =>
    rw [hc, cond_false] at h
    rw [cond_false]
    obtain ⟨q1, q2, q3⟩ := hb
    obtain ⟨a1, b1, _⟩ := cN_ok h
    exact ⟨q1, q2, a1, b1, q3.2.2.1, q3.2.2.2.1, q3.2.2.2.2.1, q3.2.2.2.2.2.1, q3.2.2.2.2.2.2.1, q3.2.2.2.2.2.2.2⟩
theorem bd_set1 {st : pst} (hb : bdS st) (h : (spSet V K n p 1 20 st).2.2.1 = 0) : bdS (spSet V K n p 1 20 st).2.1 := by
  unfold spSet at h ⊢
  cases hc : st.1.2.2.2.testBit 1 with
  | true => rw [hc, cond_true] at h; exact absurd h (by decide : ¬ (3 : Int32) = 0)
  | false =>
    rw [hc, cond_false] at h
    rw [cond_false]
    obtain ⟨q1, q2, q3⟩ := hb
    obtain ⟨a1, b1, _⟩ := cN_ok h
    exact ⟨q1, q2, q3.1, q3.2.1, a1, b1, q3.2.2.2.2.1, q3.2.2.2.2.2.1, q3.2.2.2.2.2.2.1, q3.2.2.2.2.2.2.2⟩
theorem bd_set2 {st : pst} (hb : bdS st) (h : (spSet V K n p 2 2 st).2.2.1 = 0) : bdS (spSet V K n p 2 2 st).2.1 := by
  unfold spSet at h ⊢
  cases hc : st.1.2.2.2.testBit 2 with
  | true => rw [hc, cond_true] at h; exact absurd h (by decide : ¬ (3 : Int32) = 0)
  | false =>
    rw [hc, cond_false] at h
    rw [cond_false]
    obtain ⟨q1, q2, q3⟩ := hb
    obtain ⟨a1, b1, _⟩ := cN_ok h
    exact ⟨q1, q2, q3.1, q3.2.1, q3.2.2.1, q3.2.2.2.1, a1, b1, q3.2.2.2.2.2.2.1, q3.2.2.2.2.2.2.2⟩
theorem bd_set3 {st : pst} (hb : bdS st) (h : (spSet V K n p 3 999 st).2.2.1 = 0) : bdS (spSet V K n p 3 999 st).2.1 := by
  unfold spSet at h ⊢
  cases hc : st.1.2.2.2.testBit 3 with
  | true => rw [hc, cond_true] at h; exact absurd h (by decide : ¬ (3 : Int32) = 0)
  | false =>
    rw [hc, cond_false] at h
    rw [cond_false]
    obtain ⟨q1, q2, q3⟩ := hb
    obtain ⟨a1, b1, _⟩ := cN_ok h
    exact ⟨q1, q2, q3.1, q3.2.1, q3.2.2.1, q3.2.2.2.1, q3.2.2.2.2.1, q3.2.2.2.2.2.1, a1, b1⟩
theorem bd_ln {st : pst} (hb : bdS st) (h : (spLn V K n p st).2.2.1 = 0) : bdS (spLn V K n p st).2.1 := by
  have h : (spHd V K n p st).2.2.1 = 0 := by
    unfold spLn spEn at h
    apply Classical.byContradiction
    intro c
    rw [if_neg (fun e => c e.1)] at h
    exact c h
  show bdS (spHd V K n p st).2.1
  unfold spHd at h ⊢
  cases w0 : isW V K n (am_txt 0) p with
  | true =>
    rw [w0, cond_true] at h
    rw [cond_true]
    exact bd_ship hb h
  | false =>
    rw [w0, cond_false] at h
    rw [cond_false]
    cases w2 : isW V K n (am_txt 2) p with
    | true =>
      rw [w2, cond_true] at h
      rw [cond_true]
      exact bd_pers hb
    | false =>
      rw [w2, cond_false] at h
      rw [cond_false]
      cases w3 : isW V K n (am_txt 3) p with
      | true =>
        rw [w3, cond_true] at h
        rw [cond_true]
        exact bd_berth (by decide) (by decide) hb h
      | false =>
        rw [w3, cond_false] at h
        rw [cond_false]
        cases w5 : isW V K n (am_txt 5) p with
        | true =>
          rw [w5, cond_true] at h
          rw [cond_true]
          exact bd_berth (by decide) (by decide) hb h
        | false =>
          rw [w5, cond_false] at h
          rw [cond_false]
          cases w6 : isW V K n (am_txt 6) p with
          | true =>
            rw [w6, cond_true] at h
            rw [cond_true]
            exact bd_berth (by decide) (by decide) hb h
          | false =>
            rw [w6, cond_false] at h
            rw [cond_false]
            cases w7 : isW V K n (am_txt 7) p with
            | true =>
              rw [w7, cond_true] at h
              rw [cond_true]
              exact bd_set0 hb h
            | false =>
              rw [w7, cond_false] at h
              rw [cond_false]
              cases w8 : isW V K n (am_txt 8) p with
              | true =>
                rw [w8, cond_true] at h
                rw [cond_true]
                exact bd_set1 hb h
              | false =>
                rw [w8, cond_false] at h
                rw [cond_false]
                cases w9 : isW V K n (am_txt 9) p with
                | true =>
                  rw [w9, cond_true] at h
                  rw [cond_true]
                  exact bd_set2 hb h
                | false =>
                  rw [w9, cond_false] at h
                  rw [cond_false]
                  cases w10 : isW V K n (am_txt 10) p with
                  | true =>
                    rw [w10, cond_true] at h
                    rw [cond_true]
                    exact bd_set3 hb h
                  | false =>
                    rw [w10, cond_false] at h
                    rw [cond_false]
                    exact hb
theorem bd_all : ∀ m p st, bdS st → (spAll V K n m p st).2.1 = 0 → bdS (spAll V K n m p st).1
  | 0, p, st, hb, _ => hb
  | m + 1, p, st, hb, h => by
    simp only [spAll] at h ⊢
    by_cases c : tkK K n p = 0
    · rw [if_pos c]; exact hb
    · rw [if_neg c] at h ⊢
      by_cases c2 : (spLn V K n p st).2.2.1 = 0
      · rw [if_pos c2] at h ⊢
        exact bd_all m _ _ (bd_ln hb c2) h
      · rw [if_neg c2] at h
        exact absurd h c2
end
theorem bd_0 : bdS st0 := ⟨fun j hj => absurd hj (Nat.not_lt_zero j), fun j hj => absurd hj (Nat.not_lt_zero j), by decide⟩
section
variable {h0 : am_M} {n : Nat}
theorem lp_132 {q1 : Option Value} (hq1 : am_nl q1 = true) (hK : h0 67 0 = 40 ∧ h0 67 1 = 20 ∧ h0 67 2 = 2 ∧ h0 67 3 = 999) : ∀ (m p : Nat) (st : pst) (Y h : am_M), n + 1 ≤ p + m → MR h0 n Y h p (0, -1) → rM Y st → mx 6 132 76 [some (.ref 64), q1, some (.int (Int32.ofNat st.1.2.2.2))] [] h (fun v h1 => ∃ hF, fr xN h0 hF ∧ v = some (.int (spAll (h0 2) (kdC h0) n m p st).2.1) ∧ (((spAll (h0 2) (kdC h0) n m p st).2.1 = 0 ∧ h1 = mS hF ∧ ∃ Y', (∀ k j, 68 ≤ k → k ≤ 76 → hF k j = Y' k j) ∧ rM Y' (spAll (h0 2) (kdC h0) n m p st).1) ∨ (¬ (spAll (h0 2) (kdC h0) n m p st).2.1 = 0 ∧ h1 = am_set (am_set hF 64 27 (spAll (h0 2) (kdC h0) n m p st).2.2) 78 0 (hF 78 0 + 1)))) := by
  intro m
  induction m with
  | zero =>
    intro p st Y h hm H
    have := H.2.1.1
    omega
  | succ m ih =>
    intro p st Y h hm H hr
    have hp := H.2.1.1
    have z25 : h 64 25 = 0 := H.2.2.1
    have t4 := (H.2.2.2.1 rfl).2.2.2.1
    simp only [spAll]
    by_cases c : tkK (kdC h0) n p = 0
    · rw [if_pos c]
      exact .end (some (.int 0)) (mS h) ⟨h, H.1, rfl, .inl ⟨rfl, rfl, Y, H.2.2.2.2.2, hr⟩⟩ fun d L xs o g Q T hq => sm_132_76 hq1 (am_ift z25 (am_ift (by rw [t4, mk0]; exact c) hq))
    rw [if_neg c]
    obtain ⟨v, h1, ⟨sv, rfl, Y1, R1, r1⟩, G⟩ := mx_138 hK H hr
    have adv := ln_adv (V := h0 2) (K := kdC h0) hp c st
    have run : ∀ {d L : Nat} {xs : Nat → Int32} {o : am_L} {g : Nat} {Q : Option Value → am_M → am_L → Nat → Prop} {T : Nat → am_M → am_L → Nat → Prop}, am_X L xs (d + 6) 132 76 [some (.ref 64), q1, some (.int sv)] [] am_C0 h1 o g Q T → am_X L xs (d + 6) 132 76 [some (.ref 64), q1, some (.int (Int32.ofNat st.1.2.2.2))] [] am_C0 h o g Q T := fun {d L xs o g Q T} hx => sm_132_76 hq1 (am_ift z25 (am_iff (by rw [t4, mk0]; exact c) (G d L xs o g _ _ (sm_132_95 hq1 rfl hx))))
    by_cases c2 : (spLn (h0 2) (kdC h0) n p st).2.2.1 = 0
    · rw [if_pos c2]
      have e0 : (spLn (h0 2) (kdC h0) n p st).2.2 = (0, -1) := fz_ln st c2
      rw [e0] at R1
      obtain ⟨r2, es⟩ := r1 c2
      subst es
      exact (ih (spLn (h0 2) (kdC h0) n p st).1 (spLn (h0 2) (kdC h0) n p st).2.1 Y1 h1 (by omega) R1 r2).go fun d L xs o g Q T hx => run hx
    · rw [if_neg c2]
      refine .end (some (.int (spLn (h0 2) (kdC h0) n p st).2.2.1)) (am_set (am_set h1 64 27 (spLn (h0 2) (kdC h0) n p st).2.2.2) 78 0 (h1 78 0 + 1)) ⟨h1, R1.1, rfl, .inr ⟨c2, rfl⟩⟩ fun d L xs o g Q T hq => run (sm_132_76 hq1 ?_)
      have f1 := R1.2.2.1
      have p1 := R1.2.2.2.2.1 c2
      rw [f1, p1]
      exact am_iff c2 hq
end
def x68 (k j : Nat) : Bool := Nat.beq k 68 && Nat.ble 7 j
theorem lp_132a {q1 : Option Value} (hq1 : am_nl q1 = true) {h : am_M} {P : Option Value → am_M → Prop} : ∀ (m k : Nat) (h' : am_M), k + m = 14 → 7 ≤ k → fr x68 h h' → (∀ j, 7 ≤ j → j < k → h' 68 j = 0) → (∀ h'', fr x68 h h'' → (∀ j, 7 ≤ j → j < 14 → h'' 68 j = 0) → mx 7 132 51 [some (.ref 64), q1, some (.int (Int32.ofNat 14))] [] h'' P) → mx 7 132 51 [some (.ref 64), q1, some (.int (Int32.ofNat k))] [] h' P := by
  intro m
  induction m with
  | zero =>
    intro k h' hk h7 hf hz K
    have : k = 14 := by omega
    subst this
    exact K h' hf hz
  | succ m ih =>
    intro k h' hk h7 hf hz K
    have b7 : x68 68 k = true := by
      unfold x68
      rw [Nat.ble_eq_true_of_le h7]
      rfl
    refine (ih (k + 1) (am_set h' 68 k 0) (by omega) (by omega) (hf.set 68 k _ b7) (fun j j1 j2 => ?_) K).go fun d L xs o g Q T hx => sm_132_51 hq1 (am_ift ?_ ⟨ix_n (by omega) (by decide), ?_⟩)
    · by_cases e : j = k
      · subst e; exact as_self _ _ _ _
      · rw [as_slot _ _ _ e]; exact hz j j1 (by omega)
    · show Int32.ofNat k < Int32.ofNat 14
      rw [nz_nlt (by omega) (by decide)]; omega
    · rw [nz_c k (by omega), nz_succ]
      exact hx
def mI (h : am_M) (x1 : Int32) : am_M := am_set (am_set (am_set (am_set (am_set (am_set h 64 3 0) 64 18 0) 64 20 x1) 64 19 0) 64 25 0) 64 27 (-1)
/-- what the model makes of the first n bytes -/
theorem mdl_132 {h : am_M} {n : Nat} (hn : n ≤ 500) (hx1 : ¬ h 64 18 < Int32.ofNat n) (ht : tpM h n) (hK : h 67 0 = 40 ∧ h 67 1 = 20 ∧ h 67 2 = 2 ∧ h 67 3 = 999) : ∃ h0 hF, fr x68 (mI h (Int32.ofNat n)) h0 ∧ fr xN h0 hF ∧ (((spAll (h 2) (kdC h) n (n + 1) 0 st0).2.1 = 0 ∧ (∃ Y', (∀ k j, 68 ≤ k → k ≤ 76 → hF k j = Y' k j) ∧ rM Y' (spAll (h 2) (kdC h) n (n + 1) 0 st0).1) ∧ mv 50 132 [some (.ref 64), some (.int (Int32.ofNat n)), none] h (some (.int 0)) (mS hF)) ∨ (¬ (spAll (h 2) (kdC h) n (n + 1) 0 st0).2.1 = 0 ∧ mv 50 132 [some (.ref 64), some (.int (Int32.ofNat n)), none] h (some (.int (spAll (h 2) (kdC h) n (n + 1) 0 st0).2.1)) (am_set (am_set hF 64 27 (spAll (h 2) (kdC h) n (n + 1) 0 st0).2.2) 78 0 (hF 78 0 + 1)))) := by
  have n0 := nat_n0 (k := n) (by omega)
  obtain ⟨v, h2, ⟨h0, hF, f0, fF, hv, hP⟩, G⟩ := lp_132a (q1 := some (.int (Int32.ofNat n))) rfl (h := mI h (Int32.ofNat n)) (P := fun v h1 => ∃ h0 hF, fr x68 (mI h (Int32.ofNat n)) h0 ∧ fr xN h0 hF ∧ v = some (.int (spAll (h 2) (kdC h) n (n + 1) 0 st0).2.1) ∧ (((spAll (h 2) (kdC h) n (n + 1) 0 st0).2.1 = 0 ∧ h1 = mS hF ∧ ∃ Y', (∀ k j, 68 ≤ k → k ≤ 76 → hF k j = Y' k j) ∧ rM Y' (spAll (h 2) (kdC h) n (n + 1) 0 st0).1) ∨ (¬ (spAll (h 2) (kdC h) n (n + 1) 0 st0).2.1 = 0 ∧ h1 = am_set (am_set hF 64 27 (spAll (h 2) (kdC h) n (n + 1) 0 st0).2.2) 78 0 (hF 78 0 + 1)))) 7 7 (mI h (Int32.ofNat n)) (by omega) (by omega) (fr.refl _ _) (fun j j1 j2 => by omega) (fun h0 f0 hz => by
    have e2 : h0 2 = h 2 := f0.cell 2 (fun _ => rfl)
    have ek : kdC h0 = kdC h := by unfold kdC; rw [e2]
    have e20 : h0 64 20 = Int32.ofNat n := f0 64 20 rfl
    have e81 : h0 81 = h 81 := f0.cell 81 (fun _ => rfl)
    have ht0 : tpM h0 n := fun j hj => by rw [e2, e81]; exact ht j hj
    obtain ⟨v1, h1, ⟨rfl, g1, T1⟩, G1⟩ := mx_134 (h := h0) hn e20 ht0 n 0 h0 (by omega) (fr.refl _ _) (f0 64 19 rfl)
    have R : MR h0 n h0 h1 0 (0, -1) := ⟨g1.or fun _ _ hk => x6t_N hk, ⟨by omega, hn, e20, ht0⟩, by rw [g1 64 25 rfl, f0 64 25 rfl]; rfl, fun _ => T1, fun c => absurd rfl c, fun k j a b => g1 k j (x6t_68 a)⟩
    have r0 : rM h0 st0 := ⟨⟨hz 7 (by decide) (by decide), hz 8 (by decide) (by decide), hz 9 (by decide) (by decide)⟩, ⟨by decide, by decide, by decide, by decide⟩, fun j hj => absurd hj (Nat.not_lt_zero j), fun j hj => absurd hj (Nat.not_lt_zero j), fun j hj => hz (10 + j) (by omega) (by omega)⟩
    have L := lp_132 (h0 := h0) (n := n) (q1 := some (.int (Int32.ofNat n))) rfl (by rw [f0 67 0 rfl, f0 67 1 rfl, f0 67 2 rfl, f0 67 3 rfl]; exact hK) (n + 1) 0 st0 h0 h1 (by omega) R r0
    rw [e2, ek] at L
    refine ((L.mono ?_).more 1).go fun d L xs o g Q T hx => sm_132_51 rfl (am_iff (by decide) (G1 (d + 5) L xs o g _ _ (sm_132_74 rfl rfl hx)))
    rintro v h3 ⟨hF, fF, hv, hP⟩
    exact ⟨h0, hF, f0, fF, hv, hP⟩)
  refine ⟨h0, hF, f0, fF, ?_⟩
  have run : mv 50 132 [some (.ref 64), some (.int (Int32.ofNat n)), none] h v h2 := fun d L xs o g Q T hq => sm_132 (am_iff n0 (am_iff hx1 (G (d + 43) L xs o g Q T hq)))
  subst hv
  rcases hP with ⟨a, rfl, b⟩ | ⟨a, rfl⟩
  · rw [a] at run
    exact .inl ⟨a, b, run⟩
  · exact .inr ⟨a, run⟩
