/-! ===== words, lines, the text: the model ===== -/
theorem isW_ex {V K : Nat → Int32} {n p : Nat} {t1 t2 : List Int32} (h1 : isW V K n t1 p = true) (h2 : isW V K n t2 p = true) : t1 = t2 := by
  unfold isW at h1 h2
  simp only [Bool.and_eq_true, decide_eq_true_eq, Bool.not_eq_true'] at h1 h2
  obtain ⟨_, l1, a1⟩ := h1
  obtain ⟨_, l2, a2⟩ := h2
  have le : t1.length = t2.length := l1.symm.trans l2
  have no : ∀ (t : List Int32), anyF (wdm V t (tkS K n p)) 0 t.length = false → ∀ i, i < t.length → V (tkS K n p + i) = t.getD i 0 := fun t ht i hi => by
    apply Classical.byContradiction
    intro c
    have : anyF (wdm V t (tkS K n p)) 0 t.length = true := (anyF_iff t.length 0).2 ⟨i, by omega, by omega, decide_eq_true c⟩
    rw [ht] at this
    cases this
  apply List.ext_getElem le
  intro i i1 i2
  have e1 := no t1 a1 i i1
  have e2 := no t2 a2 i i2
  rw [e1] at e2
  simp only [List.getD_eq_getElem?_getD, List.getElem?_eq_getElem i1, List.getElem?_eq_getElem i2, Option.getD_some] at e2
  exact e2
theorem isW_no {V K : Nat → Int32} {n p : Nat} {t1 t2 : List Int32} (h1 : isW V K n t1 p = true) (hne : ¬ t1 = t2) : isW V K n t2 p = false := by
  cases hc : isW V K n t2 p with
  | false => rfl
  | true => exact absurd (isW_ex h1 hc) hne
section
variable {h0 Y h : am_M} {n p : Nat} {st : pst}
theorem MR.is0 (H : MR h0 n Y h p (0, -1)) {ws i : Nat} (hs : am_sx ws) (ht : am_txt (ws - am_big) = am_txt i) (hl : (am_txt i).length ≤ 20) {b : Bool} (hb : isW (h0 2) (kdC h0) n (am_txt i) p = b) : mv 0 140 [some (.ref 64), some (.ref ws), none, none] h (some (.int (bif b then 1 else 0))) h := by
  have := H.is hs ht hl
  rw [hb] at this
  exact this
theorem ml_end {r : Nat × pst × pft} (R : MR h0 n Y h r.1 r.2.2) : ∃ h1, MR h0 n Y h1 (spEn (kdC h0) n r).1 (spEn (kdC h0) n r).2.2 ∧ ((spEn (kdC h0) n r).2.2.1 = 0 → r.2.2.1 = 0) ∧ ((h 64 25 = 0 ∧ h 64 21 = 3 ∧ ∀ (d L : Nat) (xs : Nat → Int32) (o : am_L) (g : Nat) (Q : Option Value → am_M → am_L → Nat → Prop) (T : Nat → am_M → am_L → Nat → Prop), Q none h1 o g → am_X L xs (d + 1) 134 0 [some (.ref 64), none] [] am_C0 h o g Q T) ∨ (h 64 25 = 0 ∧ ¬ h 64 21 = 3 ∧ h1 = am_set (am_set h 64 25 1) 64 26 (h 64 23)) ∨ (¬ h 64 25 = 0 ∧ h1 = h)) := by
  unfold spEn
  have hE := R.E
  by_cases f0 : r.2.2.1 = 0
  · have z25 : h 64 25 = 0 := R.2.2.1.trans f0
    have t4 := (R.2.2.2.1 f0).2.2.2.1
    by_cases c : tkK (kdC h0) n r.1 = 3
    · rw [if_neg (fun e => e.2 c)]
      obtain ⟨v, h1, ⟨rfl, R1⟩, G⟩ := R.tok f0
      exact ⟨h1, R1, fun e => e, .inl ⟨z25, by rw [t4, mk3]; exact c, G⟩⟩
    · rw [if_pos ⟨f0, c⟩]
      exact ⟨_, R.bad f0 (by decide) hE, fun e => absurd e (by decide : ¬ (1 : Int32) = 0), .inr (.inl ⟨z25, by rw [t4, mk3]; exact c, rfl⟩)⟩
  · rw [if_neg (fun e => f0 e.1)]
    exact ⟨h, R.pos f0 hE, fun e => e, .inr (.inr ⟨by rw [R.2.2.1]; exact f0, rfl⟩)⟩
theorem mv_139k (H : MR h0 n Y h p (0, -1)) : mv 1 139 [some (.ref 64), some (.ref 65), none] h (some (.int (bif isW (h0 2) (kdC h0) n (am_txt 3) p then Int32.ofNat 0 else bif isW (h0 2) (kdC h0) n (am_txt 5) p then Int32.ofNat 1 else bif isW (h0 2) (kdC h0) n (am_txt 6) p then Int32.ofNat 2 else -1))) h := fun d L xs o g Q T hq => by
  have W0 := H.is0 (ws := 1000011) (i := 3) (sx_l rfl) rfl (by decide) rfl
  have W1 := H.is0 (ws := 1000012) (i := 5) (sx_l rfl) rfl (by decide) rfl
  have W2 := H.is0 (ws := 1000013) (i := 6) (sx_l rfl) rfl (by decide) rfl
  cases w0 : isW (h0 2) (kdC h0) n (am_txt 3) p with
  | true =>
    rw [w0, cond_true] at hq
    rw [w0, cond_true] at W0
    exact sm_139_64_65 (sm_139_64_65_2 (am_ift (by decide) (am_ift (by decide) (W0.use (sm_139_64_65_15 (am_iff (by decide) hq))))))
  | false =>
    rw [w0, cond_false] at hq
    rw [w0, cond_false] at W0
    cases w1 : isW (h0 2) (kdC h0) n (am_txt 5) p with
    | true =>
      rw [w1, cond_true] at hq
      rw [w1, cond_true] at W1
      exact sm_139_64_65 (sm_139_64_65_2 (am_ift (by decide) (am_ift (by decide) (W0.use (sm_139_64_65_15 (am_ift rfl (sm_139_64_65_2 (am_ift (by decide) (am_iff (by decide) (am_ift (by decide) (W1.use (sm_139_64_65_15 (am_iff (by decide) hq)))))))))))))
    | false =>
      rw [w1, cond_false] at hq
      rw [w1, cond_false] at W1
      cases w2 : isW (h0 2) (kdC h0) n (am_txt 6) p with
      | true =>
        rw [w2, cond_true] at hq
        rw [w2, cond_true] at W2
        exact sm_139_64_65 (sm_139_64_65_2 (am_ift (by decide) (am_ift (by decide) (W0.use (sm_139_64_65_15 (am_ift rfl (sm_139_64_65_2 (am_ift (by decide) (am_iff (by decide) (am_ift (by decide) (W1.use (sm_139_64_65_15 (am_ift rfl (sm_139_64_65_2 (am_ift (by decide) (am_iff (by decide) (am_iff (by decide) (am_ift (by decide) (W2.use (sm_139_64_65_15 (am_iff (by decide) hq)))))))))))))))))))))
      | false =>
        rw [w2, cond_false] at hq
        rw [w2, cond_false] at W2
        exact sm_139_64_65 (sm_139_64_65_2 (am_ift (by decide) (am_ift (by decide) (W0.use (sm_139_64_65_15 (am_ift rfl (sm_139_64_65_2 (am_ift (by decide) (am_iff (by decide) (am_ift (by decide) (W1.use (sm_139_64_65_15 (am_ift rfl (sm_139_64_65_2 (am_ift (by decide) (am_iff (by decide) (am_iff (by decide) (am_ift (by decide) (W2.use (sm_139_64_65_15 (am_ift rfl (sm_139_64_65_2 (am_iff (by decide) hq)))))))))))))))))))))))
theorem mv_139r (H : MR h0 n Y h p (0, -1)) : mv 1 139 [some (.ref 64), some (.ref 66), none] h (some (.int (bif isW (h0 2) (kdC h0) n (am_txt 7) p then Int32.ofNat 0 else bif isW (h0 2) (kdC h0) n (am_txt 8) p then Int32.ofNat 1 else bif isW (h0 2) (kdC h0) n (am_txt 9) p then Int32.ofNat 2 else bif isW (h0 2) (kdC h0) n (am_txt 10) p then Int32.ofNat 3 else -1))) h := fun d L xs o g Q T hq => by
  have W0 := H.is0 (ws := 1000014) (i := 7) (sx_l rfl) rfl (by decide) rfl
  have W1 := H.is0 (ws := 1000015) (i := 8) (sx_l rfl) rfl (by decide) rfl
  have W2 := H.is0 (ws := 1000016) (i := 9) (sx_l rfl) rfl (by decide) rfl
  have W3 := H.is0 (ws := 1000017) (i := 10) (sx_l rfl) rfl (by decide) rfl
  cases w0 : isW (h0 2) (kdC h0) n (am_txt 7) p with
  | true =>
    rw [w0, cond_true] at hq
    rw [w0, cond_true] at W0
    exact sm_139_64_66 (sm_139_64_66_2 (am_ift (by decide) (am_ift (by decide) (W0.use (sm_139_64_66_15 (am_iff (by decide) hq))))))
  | false =>
    rw [w0, cond_false] at hq
    rw [w0, cond_false] at W0
    cases w1 : isW (h0 2) (kdC h0) n (am_txt 8) p with
    | true =>
      rw [w1, cond_true] at hq
      rw [w1, cond_true] at W1
      exact sm_139_64_66 (sm_139_64_66_2 (am_ift (by decide) (am_ift (by decide) (W0.use (sm_139_64_66_15 (am_ift rfl (sm_139_64_66_2 (am_ift (by decide) (am_iff (by decide) (am_ift (by decide) (W1.use (sm_139_64_66_15 (am_iff (by decide) hq)))))))))))))
    | false =>
      rw [w1, cond_false] at hq
      rw [w1, cond_false] at W1
      cases w2 : isW (h0 2) (kdC h0) n (am_txt 9) p with
      | true =>
        rw [w2, cond_true] at hq
        rw [w2, cond_true] at W2
        exact sm_139_64_66 (sm_139_64_66_2 (am_ift (by decide) (am_ift (by decide) (W0.use (sm_139_64_66_15 (am_ift rfl (sm_139_64_66_2 (am_ift (by decide) (am_iff (by decide) (am_ift (by decide) (W1.use (sm_139_64_66_15 (am_ift rfl (sm_139_64_66_2 (am_ift (by decide) (am_iff (by decide) (am_iff (by decide) (am_ift (by decide) (W2.use (sm_139_64_66_15 (am_iff (by decide) hq)))))))))))))))))))))
      | false =>
        rw [w2, cond_false] at hq
        rw [w2, cond_false] at W2
        cases w3 : isW (h0 2) (kdC h0) n (am_txt 10) p with
        | true =>
          rw [w3, cond_true] at hq
          rw [w3, cond_true] at W3
          exact sm_139_64_66 (sm_139_64_66_2 (am_ift (by decide) (am_ift (by decide) (W0.use (sm_139_64_66_15 (am_ift rfl (sm_139_64_66_2 (am_ift (by decide) (am_iff (by decide) (am_ift (by decide) (W1.use (sm_139_64_66_15 (am_ift rfl (sm_139_64_66_2 (am_ift (by decide) (am_iff (by decide) (am_iff (by decide) (am_ift (by decide) (W2.use (sm_139_64_66_15 (am_ift rfl (sm_139_64_66_2 (am_ift (by decide) (am_iff (by decide) (am_iff (by decide) (am_iff (by decide) (am_ift (by decide) (W3.use (sm_139_64_66_15 (am_iff (by decide) hq))))))))))))))))))))))))))))))
        | false =>
          rw [w3, cond_false] at hq
          rw [w3, cond_false] at W3
          exact sm_139_64_66 (sm_139_64_66_2 (am_ift (by decide) (am_ift (by decide) (W0.use (sm_139_64_66_15 (am_ift rfl (sm_139_64_66_2 (am_ift (by decide) (am_iff (by decide) (am_ift (by decide) (W1.use (sm_139_64_66_15 (am_ift rfl (sm_139_64_66_2 (am_ift (by decide) (am_iff (by decide) (am_iff (by decide) (am_ift (by decide) (W2.use (sm_139_64_66_15 (am_ift rfl (sm_139_64_66_2 (am_ift (by decide) (am_iff (by decide) (am_iff (by decide) (am_iff (by decide) (am_ift (by decide) (W3.use (sm_139_64_66_15 (am_ift rfl (sm_139_64_66_2 (am_iff (by decide) hq))))))))))))))))))))))))))))))))
/-- behind a line that isn't of a rule -/
theorem ml_pl {r : Nat × pst × pft} {x1 : Int32} {q2 q4 : Option Value} (h2 : am_nl q2 = true) (h4 : am_nl q4 = true) (R : MR h0 n Y h r.1 r.2.2) (hr : r.2.2.1 = 0 → rM Y r.2.1 ∧ x1 = Int32.ofNat r.2.1.1.2.2.2) : ∃ h1, (∃ sv : Int32, some (Value.int x1) = some (.int sv) ∧ ∃ Y', MR h0 n Y' h1 (spEn (kdC h0) n r).1 (spEn (kdC h0) n r).2.2 ∧ ((spEn (kdC h0) n r).2.2.1 = 0 → rM Y' (spEn (kdC h0) n r).2.1 ∧ sv = Int32.ofNat (spEn (kdC h0) n r).2.1.1.2.2.2)) ∧ ∀ {d L : Nat} {xs : Nat → Int32} {o : am_L} {g : Nat} {Q : Option Value → am_M → am_L → Nat → Prop} {T : Nat → am_M → am_L → Nat → Prop}, Q (some (.int x1)) h1 o g → (if h 64 25 = 0 then (if h 64 21 = 3 then am_X L xs (d + 1) 134 0 [some (.ref 64), none] [] am_C0 h o g (fun w h' o' g' => am_X L xs (d + 2) 138 173 [some (.ref 64), some (.int x1), q2, some (.int (-1)), q4] (w.toList ++ []) am_C0 h' o' g' Q T) T else (if (-1 : Int32) = -1 then Q (some (.int x1)) (am_set (am_set h 64 25 1) 64 26 (h 64 23)) o g else Q (some (.int (x1 ||| ((1 : Int32) <<< ((-1 : Int32) &&& 31))))) (am_set (am_set h 64 25 1) 64 26 (h 64 23)) o g)) else (if (-1 : Int32) = -1 then Q (some (.int x1)) h o g else Q (some (.int (x1 ||| ((1 : Int32) <<< ((-1 : Int32) &&& 31))))) h o g)) := by
  obtain ⟨h1, R1, z, K⟩ := ml_end R
  refine ⟨h1, ⟨x1, rfl, Y, R1, fun e => hr (z e)⟩, fun {d L xs o g Q T} hq => ?_⟩
  rcases K with ⟨a, b, G⟩ | ⟨a, b, rfl⟩ | ⟨a, rfl⟩
  · exact am_ift a (am_ift b (G d L xs o g _ _ (sm_138_173 rfl h2 h4 (am_ift rfl hq))))
  · exact am_ift a (am_iff b (am_ift rfl hq))
  · exact am_iff a (am_ift rfl hq)
/-- a rule's line, from its first token on -/
theorem ml_rule {i : Nat} {top : Int32} {q4 : Option Value} (h4 : am_nl q4 = true) (hi : i < 4) (htop : h0 67 i = top) (H : MR h0 n Y h p (0, -1)) (hr : rM Y st) : ∃ (sv : Int32) (h1 : am_M), (∃ Y', MR h0 n Y' h1 (spEn (kdC h0) n (spSet (h0 2) (kdC h0) n p i top st)).1 (spEn (kdC h0) n (spSet (h0 2) (kdC h0) n p i top st)).2.2 ∧ ((spEn (kdC h0) n (spSet (h0 2) (kdC h0) n p i top st)).2.2.1 = 0 → rM Y' (spEn (kdC h0) n (spSet (h0 2) (kdC h0) n p i top st)).2.1 ∧ sv = Int32.ofNat (spEn (kdC h0) n (spSet (h0 2) (kdC h0) n p i top st)).2.1.1.2.2.2)) ∧ ∀ (d L : Nat) (xs : Nat → Int32) (o : am_L) (g : Nat) (Q : Option Value → am_M → am_L → Nat → Prop) (T : Nat → am_M → am_L → Nat → Prop), Q (some (.int sv)) h1 o g → am_X L xs (d + 5) 138 40 [some (.ref 64), some (.int (Int32.ofNat st.1.2.2.2)), some (.int (-1)), some (.int (Int32.ofNat i)), q4] [.int 0] am_C0 h o g Q T := by
  have hr' := hr
  obtain ⟨⟨r0, r1, r2⟩, ⟨b0, b1, b2, b3⟩, hs, hb, ht⟩ := hr'
  have hp := H.2.1.1
  have i4 : am_ix (Int32.ofNat i) 4 := ix_n hi (by decide)
  have ni : ¬ Int32.ofNat i = -1 := fun e => by have := nat_n0 (k := i) (by omega); rw [e] at this; exact this (by decide)
  have e10 : (10 : Int32) + Int32.ofNat i = Int32.ofNat (10 + i) := (Int32.ofNat_add 10 i).symm
  have i14 : am_ix (Int32.ofNat (10 + i)) 14 := ix_n (by omega) (by decide)
  have ba := bt_shr ⟨st.1.2.2.2, by omega⟩ ⟨i, by omega⟩
  have bo := bt_or ⟨st.1.2.2.2, by omega⟩ ⟨i, by omega⟩
  have b16 : ∀ (u : Fin 16) (i : Fin 4), u.val ||| 2 ^ i.val < 16 := by decide
  have z25 : h 64 25 = 0 := H.2.2.1
  have nci : (Int32.ofNat i).toNatClampNeg = i := nz_c i (by omega)
  unfold spSet
  cases hc : st.1.2.2.2.testBit i with
  | true =>
    rw [cond_true]
    have B := H.bad rfl (f := 3) (by decide) hp
    obtain ⟨v, h1, ⟨w, rfl, R1, _⟩, G⟩ := B.num 0 top
    rw [cNf_st (by decide : ¬ (3 : Int32) = 0)] at R1
    have S1 := R1.set 68 (10 + i) w (.inr ⟨rfl, by omega⟩)
    refine ⟨Int32.ofNat st.1.2.2.2 ||| (1 <<< (Int32.ofNat i &&& 31)), _, ⟨_, S1, fun e => absurd e (by decide : ¬ (3 : Int32) = 0)⟩, fun d L xs o g Q T hq => sm_138_40 h4 (am_ift rfl (am_ift rfl (am_iff ni (am_ift (ba.2 hc) (am_ift z25 ⟨i4, ?_⟩)))))⟩
    rw [nci, H.1 67 i rfl, htop]
    refine G (d + 2) L xs o g _ _ (sm_138_124 rfl h4 (am_iff ni ?_))
    rw [e10, nz_c _ (by omega)]
    exact ⟨i14, am_iff (by rw [R1.2.2.1]; exact (by decide : ¬ (3 : Int32) = 0)) hq⟩
  | false =>
    rw [cond_false]
    obtain ⟨v0, h1, ⟨rfl, R0⟩, G0⟩ := H.tok rfl
    obtain ⟨v, h2, ⟨w, rfl, R1, qw⟩, G⟩ := R0.num 0 top
    have S1 := R1.set 68 (10 + i) w (.inr ⟨rfl, by omega⟩)
    obtain ⟨h3, R3, z, K⟩ := ml_end (r := (itE (kdC h0) n p 2, ((st.1.1, st.1.2.1, st.1.2.2.1, st.1.2.2.2 ||| 2 ^ i), am_set st.2 8 i (cNv (h0 2) (kdC h0) n (itE (kdC h0) n p 1) 0 top)), cNf (h0 2) (kdC h0) n (itE (kdC h0) n p 1) 0 top (0, -1))) S1
    refine ⟨Int32.ofNat (st.1.2.2.2 ||| 2 ^ i), h3, ⟨_, R3, fun e => ⟨⟨⟨?_, ?_, ?_⟩, ⟨b0, b1, b2, b16 ⟨st.1.2.2.2, b3⟩ ⟨i, hi⟩⟩, hs, hb, fun j hj => ?_⟩, rfl⟩⟩, fun d L xs o g Q T hq => sm_138_40 h4 (am_ift rfl (am_ift rfl (am_iff ni (am_iff (fun q => by have := ba.1 q; simp only at this; rw [hc] at this; cases this) (am_ift z25 ?_)))))⟩
    · show am_set Y 68 (10 + i) w 68 7 = _
      rw [as_slot _ _ _ (by omega)]; exact r0
    · show am_set Y 68 (10 + i) w 68 8 = _
      rw [as_slot _ _ _ (by omega)]; exact r1
    · show am_set Y 68 (10 + i) w 68 9 = _
      rw [as_slot _ _ _ (by omega)]; exact r2
    · show am_set Y 68 (10 + i) w 68 (10 + j) = am_set st.2 8 i (cNv (h0 2) (kdC h0) n (itE (kdC h0) n p 1) 0 top) 8 j
      by_cases ej : j = i
      · subst ej
        rw [as_self, as_self]
        exact qw (z e)
      · rw [as_slot _ _ _ (by omega), as_slot _ _ _ ej]
        exact ht j hj
    · refine G0 (d + 3) L xs o g _ _ (sm_138_104 rfl h4 (am_iff ni ⟨i4, ?_⟩))
      rw [nci, R0.1 67 i rfl, htop]
      refine G (d + 2) L xs o g _ _ (sm_138_124 rfl h4 (am_iff ni ?_))
      rw [e10, nz_c _ (by omega)]
      refine ⟨i14, ?_⟩
      have eo : Int32.ofNat st.1.2.2.2 ||| 1 <<< (Int32.ofNat i &&& 31) = Int32.ofNat (st.1.2.2.2 ||| 2 ^ i) := bo.1
      rcases K with ⟨a, b, G5⟩ | ⟨a, b, rfl⟩ | ⟨a, rfl⟩
      · refine am_ift a (am_ift b (G5 (d + 3) L xs o g _ _ (sm_138_173 rfl rfl rfl (am_iff ni ?_))))
        rw [eo]; exact hq
      · refine am_ift a (am_iff b ?_)
        rw [eo]; exact hq
      · refine am_iff a ?_
        rw [eo]; exact hq
theorem mx_138 (hK : h0 67 0 = 40 ∧ h0 67 1 = 20 ∧ h0 67 2 = 2 ∧ h0 67 3 = 999) (H : MR h0 n Y h p (0, -1)) (hr : rM Y st) : mx 5 138 0 [some (.ref 64), some (.int (Int32.ofNat st.1.2.2.2)), none, none, none] [] h (fun v h1 => ∃ sv : Int32, v = some (.int sv) ∧ ∃ Y', MR h0 n Y' h1 (spLn (h0 2) (kdC h0) n p st).1 (spLn (h0 2) (kdC h0) n p st).2.2 ∧ ((spLn (h0 2) (kdC h0) n p st).2.2.1 = 0 → rM Y' (spLn (h0 2) (kdC h0) n p st).2.1 ∧ sv = Int32.ofNat (spLn (h0 2) (kdC h0) n p st).2.1.1.2.2.2)) := by
  have K1 := mv_139k H
  have K2 := mv_139r H
  unfold spLn spHd
  cases w0 : isW (h0 2) (kdC h0) n (am_txt 0) p with
  | true =>
    have n2 : isW (h0 2) (kdC h0) n (am_txt 2) p = false := isW_no w0 (by decide)
    have n3 : isW (h0 2) (kdC h0) n (am_txt 3) p = false := isW_no w0 (by decide)
    have n5 : isW (h0 2) (kdC h0) n (am_txt 5) p = false := isW_no w0 (by decide)
    have n6 : isW (h0 2) (kdC h0) n (am_txt 6) p = false := isW_no w0 (by decide)
    have n7 : isW (h0 2) (kdC h0) n (am_txt 7) p = false := isW_no w0 (by decide)
    have n8 : isW (h0 2) (kdC h0) n (am_txt 8) p = false := isW_no w0 (by decide)
    have n9 : isW (h0 2) (kdC h0) n (am_txt 9) p = false := isW_no w0 (by decide)
    have n10 : isW (h0 2) (kdC h0) n (am_txt 10) p = false := isW_no w0 (by decide)
    rw [n3, cond_false, n5, cond_false, n6, cond_false] at K1
    rw [n7, cond_false, n8, cond_false, n9, cond_false, n10, cond_false] at K2
    have W18 := H.is0 (ws := 1000018) (i := 0) (sx_l rfl) rfl (by decide) w0
    rw [cond_true]
    obtain ⟨v, h1, ⟨rfl, Y1, R1, q1⟩, G⟩ := mx_141 H hr
    obtain ⟨h2, P2, E2⟩ := ml_pl (x1 := Int32.ofNat st.1.2.2.2) (q2 := some (.int (-1))) (q4 := none) rfl rfl R1 (fun e => ⟨q1 e, by unfold spShip; split <;> rfl⟩)
    exact .end _ h2 P2 fun d L xs o g Q T hq => sm_138 (K1.use (sm_138_8 rfl rfl rfl (K2.use (sm_138_17 rfl rfl (W18.use (sm_138_24 rfl (am_iff (by decide) (G (d + 0) L xs o g _ _ (sm_138_31 rfl rfl (E2 hq))))))))))
  | false =>
    rw [cond_false]
    cases w2 : isW (h0 2) (kdC h0) n (am_txt 2) p with
    | true =>
      have n0 : isW (h0 2) (kdC h0) n (am_txt 0) p = false := isW_no w2 (by decide)
      have n3 : isW (h0 2) (kdC h0) n (am_txt 3) p = false := isW_no w2 (by decide)
      have n5 : isW (h0 2) (kdC h0) n (am_txt 5) p = false := isW_no w2 (by decide)
      have n6 : isW (h0 2) (kdC h0) n (am_txt 6) p = false := isW_no w2 (by decide)
      have n7 : isW (h0 2) (kdC h0) n (am_txt 7) p = false := isW_no w2 (by decide)
      have n8 : isW (h0 2) (kdC h0) n (am_txt 8) p = false := isW_no w2 (by decide)
      have n9 : isW (h0 2) (kdC h0) n (am_txt 9) p = false := isW_no w2 (by decide)
      have n10 : isW (h0 2) (kdC h0) n (am_txt 10) p = false := isW_no w2 (by decide)
      rw [n3, cond_false, n5, cond_false, n6, cond_false] at K1
      rw [n7, cond_false, n8, cond_false, n9, cond_false, n10, cond_false] at K2
      have W18 := H.is0 (ws := 1000018) (i := 0) (sx_l rfl) rfl (by decide) n0
      have W20 := H.is0 (ws := 1000020) (i := 2) (sx_l rfl) rfl (by decide) w2
      rw [cond_true]
      obtain ⟨v, h1, P1, G⟩ := H.begin (w := 1) (mo := 4) (by decide) (by decide) hr.1.2.1 hr.2.1.2.1
      unfold spPers
      rcases P1 with ⟨c, rfl, R1⟩ | ⟨c, rfl, R1⟩
      · rw [if_neg (by omega)]
        obtain ⟨h2, P2, E2⟩ := ml_pl (r := (p, st, (2, Int32.ofNat (tkS (kdC h0) n p)))) (x1 := Int32.ofNat st.1.2.2.2) (q2 := some (.int (-1))) (q4 := none) rfl rfl R1 (fun e => absurd e (by decide : ¬ (2 : Int32) = 0))
        exact .end _ h2 P2 fun d L xs o g Q T hq => sm_138 (K1.use (sm_138_8 rfl rfl rfl (K2.use (sm_138_17 rfl rfl (W18.use (sm_138_24 rfl (am_ift rfl (W20.use (sm_138_40 rfl (am_iff (by decide) (G (d + 2) L xs o g _ _ (sm_138_49 rfl rfl (E2 hq)))))))))))))
      · rw [if_pos c]
        obtain ⟨h2, P2, E2⟩ := ml_pl (r := (tkE (kdC h0) n p, ((st.1.1, st.1.2.1 + 1, st.1.2.2), st.2), (0, -1))) (x1 := Int32.ofNat st.1.2.2.2) (q2 := some (.int (-1))) (q4 := none) rfl rfl R1 (fun e => ⟨⟨⟨hr.1.1, rfl, hr.1.2.2⟩, ⟨hr.2.1.1, by show st.1.2.1 + 1 ≤ 4; omega, hr.2.1.2.2⟩, hr.2.2.1, hr.2.2.2.1, fun j hj => by
            show am_set Y 68 8 (Int32.ofNat (st.1.2.1 + 1)) 68 (10 + j) = _
            rw [as_slot _ _ _ (by omega)]
            exact hr.2.2.2.2 j hj⟩, rfl⟩)
        exact .end _ h2 P2 fun d L xs o g Q T hq => sm_138 (K1.use (sm_138_8 rfl rfl rfl (K2.use (sm_138_17 rfl rfl (W18.use (sm_138_24 rfl (am_ift rfl (W20.use (sm_138_40 rfl (am_iff (by decide) (G (d + 2) L xs o g _ _ (sm_138_49 rfl rfl (E2 hq)))))))))))))
    | false =>
      rw [cond_false]
      cases w3 : isW (h0 2) (kdC h0) n (am_txt 3) p with
      | true =>
        have n0 : isW (h0 2) (kdC h0) n (am_txt 0) p = false := isW_no w3 (by decide)
        have n2 : isW (h0 2) (kdC h0) n (am_txt 2) p = false := isW_no w3 (by decide)
        have n5 : isW (h0 2) (kdC h0) n (am_txt 5) p = false := isW_no w3 (by decide)
        have n6 : isW (h0 2) (kdC h0) n (am_txt 6) p = false := isW_no w3 (by decide)
        have n7 : isW (h0 2) (kdC h0) n (am_txt 7) p = false := isW_no w3 (by decide)
        have n8 : isW (h0 2) (kdC h0) n (am_txt 8) p = false := isW_no w3 (by decide)
        have n9 : isW (h0 2) (kdC h0) n (am_txt 9) p = false := isW_no w3 (by decide)
        have n10 : isW (h0 2) (kdC h0) n (am_txt 10) p = false := isW_no w3 (by decide)
        rw [w3, cond_true] at K1
        rw [n7, cond_false, n8, cond_false, n9, cond_false, n10, cond_false] at K2
        have W18 := H.is0 (ws := 1000018) (i := 0) (sx_l rfl) rfl (by decide) n0
        have W20 := H.is0 (ws := 1000020) (i := 2) (sx_l rfl) rfl (by decide) n2
        rw [cond_true]
        obtain ⟨v, h1, ⟨rfl, Y1, R1, q1⟩, G⟩ := mx_146 (k := 0) H hr
        obtain ⟨h2, P2, E2⟩ := ml_pl (x1 := Int32.ofNat st.1.2.2.2) (q2 := some (.int 0)) (q4 := none) rfl rfl R1 (fun e => ⟨q1 e, by unfold spBerth; split <;> rfl⟩)
        exact .end _ h2 P2 fun d L xs o g Q T hq => sm_138 (K1.use (sm_138_8 rfl rfl rfl (K2.use (sm_138_17 rfl rfl (W18.use (sm_138_24 rfl (am_ift rfl (W20.use (sm_138_40 rfl (am_ift rfl (am_iff (by decide) (G (d + 0) L xs o g _ _ (sm_138_63 rfl rfl (E2 hq))))))))))))))
      | false =>
        rw [cond_false]
        cases w5 : isW (h0 2) (kdC h0) n (am_txt 5) p with
        | true =>
          have n0 : isW (h0 2) (kdC h0) n (am_txt 0) p = false := isW_no w5 (by decide)
          have n2 : isW (h0 2) (kdC h0) n (am_txt 2) p = false := isW_no w5 (by decide)
          have n3 : isW (h0 2) (kdC h0) n (am_txt 3) p = false := isW_no w5 (by decide)
          have n6 : isW (h0 2) (kdC h0) n (am_txt 6) p = false := isW_no w5 (by decide)
          have n7 : isW (h0 2) (kdC h0) n (am_txt 7) p = false := isW_no w5 (by decide)
          have n8 : isW (h0 2) (kdC h0) n (am_txt 8) p = false := isW_no w5 (by decide)
          have n9 : isW (h0 2) (kdC h0) n (am_txt 9) p = false := isW_no w5 (by decide)
          have n10 : isW (h0 2) (kdC h0) n (am_txt 10) p = false := isW_no w5 (by decide)
          rw [n3, cond_false, w5, cond_true] at K1
          rw [n7, cond_false, n8, cond_false, n9, cond_false, n10, cond_false] at K2
          have W18 := H.is0 (ws := 1000018) (i := 0) (sx_l rfl) rfl (by decide) n0
          have W20 := H.is0 (ws := 1000020) (i := 2) (sx_l rfl) rfl (by decide) n2
          rw [cond_true]
          obtain ⟨v, h1, ⟨rfl, Y1, R1, q1⟩, G⟩ := mx_146 (k := 1) H hr
          obtain ⟨h2, P2, E2⟩ := ml_pl (x1 := Int32.ofNat st.1.2.2.2) (q2 := some (.int 1)) (q4 := none) rfl rfl R1 (fun e => ⟨q1 e, by unfold spBerth; split <;> rfl⟩)
          exact .end _ h2 P2 fun d L xs o g Q T hq => sm_138 (K1.use (sm_138_8 rfl rfl rfl (K2.use (sm_138_17 rfl rfl (W18.use (sm_138_24 rfl (am_ift rfl (W20.use (sm_138_40 rfl (am_ift rfl (am_iff (by decide) (G (d + 0) L xs o g _ _ (sm_138_63 rfl rfl (E2 hq))))))))))))))
        | false =>
          rw [cond_false]
          cases w6 : isW (h0 2) (kdC h0) n (am_txt 6) p with
          | true =>
            have n0 : isW (h0 2) (kdC h0) n (am_txt 0) p = false := isW_no w6 (by decide)
            have n2 : isW (h0 2) (kdC h0) n (am_txt 2) p = false := isW_no w6 (by decide)
            have n3 : isW (h0 2) (kdC h0) n (am_txt 3) p = false := isW_no w6 (by decide)
            have n5 : isW (h0 2) (kdC h0) n (am_txt 5) p = false := isW_no w6 (by decide)
            have n7 : isW (h0 2) (kdC h0) n (am_txt 7) p = false := isW_no w6 (by decide)
            have n8 : isW (h0 2) (kdC h0) n (am_txt 8) p = false := isW_no w6 (by decide)
            have n9 : isW (h0 2) (kdC h0) n (am_txt 9) p = false := isW_no w6 (by decide)
            have n10 : isW (h0 2) (kdC h0) n (am_txt 10) p = false := isW_no w6 (by decide)
            rw [n3, cond_false, n5, cond_false, w6, cond_true] at K1
            rw [n7, cond_false, n8, cond_false, n9, cond_false, n10, cond_false] at K2
            have W18 := H.is0 (ws := 1000018) (i := 0) (sx_l rfl) rfl (by decide) n0
            have W20 := H.is0 (ws := 1000020) (i := 2) (sx_l rfl) rfl (by decide) n2
            rw [cond_true]
            obtain ⟨v, h1, ⟨rfl, Y1, R1, q1⟩, G⟩ := mx_146 (k := 2) H hr
            obtain ⟨h2, P2, E2⟩ := ml_pl (x1 := Int32.ofNat st.1.2.2.2) (q2 := some (.int 2)) (q4 := none) rfl rfl R1 (fun e => ⟨q1 e, by unfold spBerth; split <;> rfl⟩)
            exact .end _ h2 P2 fun d L xs o g Q T hq => sm_138 (K1.use (sm_138_8 rfl rfl rfl (K2.use (sm_138_17 rfl rfl (W18.use (sm_138_24 rfl (am_ift rfl (W20.use (sm_138_40 rfl (am_ift rfl (am_iff (by decide) (G (d + 0) L xs o g _ _ (sm_138_63 rfl rfl (E2 hq))))))))))))))
          | false =>
            rw [cond_false]
            cases w7 : isW (h0 2) (kdC h0) n (am_txt 7) p with
            | true =>
              have n0 : isW (h0 2) (kdC h0) n (am_txt 0) p = false := isW_no w7 (by decide)
              have n2 : isW (h0 2) (kdC h0) n (am_txt 2) p = false := isW_no w7 (by decide)
              have n3 : isW (h0 2) (kdC h0) n (am_txt 3) p = false := isW_no w7 (by decide)
              have n5 : isW (h0 2) (kdC h0) n (am_txt 5) p = false := isW_no w7 (by decide)
              have n6 : isW (h0 2) (kdC h0) n (am_txt 6) p = false := isW_no w7 (by decide)
              have n8 : isW (h0 2) (kdC h0) n (am_txt 8) p = false := isW_no w7 (by decide)
              have n9 : isW (h0 2) (kdC h0) n (am_txt 9) p = false := isW_no w7 (by decide)
              have n10 : isW (h0 2) (kdC h0) n (am_txt 10) p = false := isW_no w7 (by decide)
              rw [n3, cond_false, n5, cond_false, n6, cond_false] at K1
              rw [w7, cond_true] at K2
              have W18 := H.is0 (ws := 1000018) (i := 0) (sx_l rfl) rfl (by decide) n0
              have W20 := H.is0 (ws := 1000020) (i := 2) (sx_l rfl) rfl (by decide) n2
              rw [cond_true]
              obtain ⟨sv, h2, P2, E2⟩ := ml_rule (i := 0) (top := 40) (q4 := none) rfl (by decide) hK.1 H hr
              exact .end (some (.int sv)) h2 ⟨sv, rfl, P2⟩ fun d L xs o g Q T hq => sm_138 (K1.use (sm_138_8 rfl rfl rfl (K2.use (sm_138_17 rfl rfl (W18.use (sm_138_24 rfl (am_ift rfl (W20.use (E2 d L xs o g Q T hq)))))))))
            | false =>
              rw [cond_false]
              cases w8 : isW (h0 2) (kdC h0) n (am_txt 8) p with
              | true =>
                have n0 : isW (h0 2) (kdC h0) n (am_txt 0) p = false := isW_no w8 (by decide)
                have n2 : isW (h0 2) (kdC h0) n (am_txt 2) p = false := isW_no w8 (by decide)
                have n3 : isW (h0 2) (kdC h0) n (am_txt 3) p = false := isW_no w8 (by decide)
                have n5 : isW (h0 2) (kdC h0) n (am_txt 5) p = false := isW_no w8 (by decide)
                have n6 : isW (h0 2) (kdC h0) n (am_txt 6) p = false := isW_no w8 (by decide)
                have n7 : isW (h0 2) (kdC h0) n (am_txt 7) p = false := isW_no w8 (by decide)
                have n9 : isW (h0 2) (kdC h0) n (am_txt 9) p = false := isW_no w8 (by decide)
                have n10 : isW (h0 2) (kdC h0) n (am_txt 10) p = false := isW_no w8 (by decide)
                rw [n3, cond_false, n5, cond_false, n6, cond_false] at K1
                rw [n7, cond_false, w8, cond_true] at K2
                have W18 := H.is0 (ws := 1000018) (i := 0) (sx_l rfl) rfl (by decide) n0
                have W20 := H.is0 (ws := 1000020) (i := 2) (sx_l rfl) rfl (by decide) n2
                rw [cond_true]
                obtain ⟨sv, h2, P2, E2⟩ := ml_rule (i := 1) (top := 20) (q4 := none) rfl (by decide) hK.2.1 H hr
                exact .end (some (.int sv)) h2 ⟨sv, rfl, P2⟩ fun d L xs o g Q T hq => sm_138 (K1.use (sm_138_8 rfl rfl rfl (K2.use (sm_138_17 rfl rfl (W18.use (sm_138_24 rfl (am_ift rfl (W20.use (E2 d L xs o g Q T hq)))))))))
              | false =>
                rw [cond_false]
                cases w9 : isW (h0 2) (kdC h0) n (am_txt 9) p with
                | true =>
                  have n0 : isW (h0 2) (kdC h0) n (am_txt 0) p = false := isW_no w9 (by decide)
                  have n2 : isW (h0 2) (kdC h0) n (am_txt 2) p = false := isW_no w9 (by decide)
                  have n3 : isW (h0 2) (kdC h0) n (am_txt 3) p = false := isW_no w9 (by decide)
                  have n5 : isW (h0 2) (kdC h0) n (am_txt 5) p = false := isW_no w9 (by decide)
                  have n6 : isW (h0 2) (kdC h0) n (am_txt 6) p = false := isW_no w9 (by decide)
                  have n7 : isW (h0 2) (kdC h0) n (am_txt 7) p = false := isW_no w9 (by decide)
                  have n8 : isW (h0 2) (kdC h0) n (am_txt 8) p = false := isW_no w9 (by decide)
                  have n10 : isW (h0 2) (kdC h0) n (am_txt 10) p = false := isW_no w9 (by decide)
                  rw [n3, cond_false, n5, cond_false, n6, cond_false] at K1
                  rw [n7, cond_false, n8, cond_false, w9, cond_true] at K2
                  have W18 := H.is0 (ws := 1000018) (i := 0) (sx_l rfl) rfl (by decide) n0
                  have W20 := H.is0 (ws := 1000020) (i := 2) (sx_l rfl) rfl (by decide) n2
                  rw [cond_true]
                  obtain ⟨sv, h2, P2, E2⟩ := ml_rule (i := 2) (top := 2) (q4 := none) rfl (by decide) hK.2.2.1 H hr
                  exact .end (some (.int sv)) h2 ⟨sv, rfl, P2⟩ fun d L xs o g Q T hq => sm_138 (K1.use (sm_138_8 rfl rfl rfl (K2.use (sm_138_17 rfl rfl (W18.use (sm_138_24 rfl (am_ift rfl (W20.use (E2 d L xs o g Q T hq)))))))))
                | false =>
                  rw [cond_false]
                  cases w10 : isW (h0 2) (kdC h0) n (am_txt 10) p with
                  | true =>
                    have n0 : isW (h0 2) (kdC h0) n (am_txt 0) p = false := isW_no w10 (by decide)
                    have n2 : isW (h0 2) (kdC h0) n (am_txt 2) p = false := isW_no w10 (by decide)
                    have n3 : isW (h0 2) (kdC h0) n (am_txt 3) p = false := isW_no w10 (by decide)
                    have n5 : isW (h0 2) (kdC h0) n (am_txt 5) p = false := isW_no w10 (by decide)
                    have n6 : isW (h0 2) (kdC h0) n (am_txt 6) p = false := isW_no w10 (by decide)
                    have n7 : isW (h0 2) (kdC h0) n (am_txt 7) p = false := isW_no w10 (by decide)
                    have n8 : isW (h0 2) (kdC h0) n (am_txt 8) p = false := isW_no w10 (by decide)
                    have n9 : isW (h0 2) (kdC h0) n (am_txt 9) p = false := isW_no w10 (by decide)
                    rw [n3, cond_false, n5, cond_false, n6, cond_false] at K1
                    rw [n7, cond_false, n8, cond_false, n9, cond_false, w10, cond_true] at K2
                    have W18 := H.is0 (ws := 1000018) (i := 0) (sx_l rfl) rfl (by decide) n0
                    have W20 := H.is0 (ws := 1000020) (i := 2) (sx_l rfl) rfl (by decide) n2
                    rw [cond_true]
                    obtain ⟨sv, h2, P2, E2⟩ := ml_rule (i := 3) (top := 999) (q4 := none) rfl (by decide) hK.2.2.2 H hr
                    exact .end (some (.int sv)) h2 ⟨sv, rfl, P2⟩ fun d L xs o g Q T hq => sm_138 (K1.use (sm_138_8 rfl rfl rfl (K2.use (sm_138_17 rfl rfl (W18.use (sm_138_24 rfl (am_ift rfl (W20.use (E2 d L xs o g Q T hq)))))))))
                  | false =>
                    rw [cond_false]
                    rw [w3, cond_false, w5, cond_false, w6, cond_false] at K1
                    rw [w7, cond_false, w8, cond_false, w9, cond_false, w10, cond_false] at K2
                    have W18 := H.is0 (ws := 1000018) (i := 0) (sx_l rfl) rfl (by decide) w0
                    have W20 := H.is0 (ws := 1000020) (i := 2) (sx_l rfl) rfl (by decide) w2
                    have B := H.bad rfl (f := 1) (by decide) H.2.1.1
                    obtain ⟨v, h1, ⟨w, rfl, R1, _⟩, G⟩ := B.num 0 0
                    rw [cNf_st (by decide : ¬ (1 : Int32) = 0)] at R1
                    refine .end (some (.int (Int32.ofNat st.1.2.2.2))) h1 ⟨_, rfl, Y, R1, fun e => absurd e (by decide : ¬ (1 : Int32) = 0)⟩ fun d L xs o g Q T hq => sm_138 (K1.use (sm_138_8 rfl rfl rfl (K2.use (sm_138_17 rfl rfl (W18.use (sm_138_24 rfl (am_ift rfl (W20.use (sm_138_40 rfl (am_ift rfl (am_ift rfl (am_ift rfl (am_ift H.2.2.1 (G (d + 2) L xs o g _ _ (sm_138_124 rfl rfl (am_ift rfl (am_iff ?_ hq)))))))))))))))))
                    rw [R1.2.2.1]; exact (by decide : ¬ (1 : Int32) = 0)
end
