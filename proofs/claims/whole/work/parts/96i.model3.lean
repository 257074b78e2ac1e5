/-! ===== tries: the model ===== -/
def xB (k j : Nat) : Bool := Nat.beq k 89 || (Nat.beq k 90 || (Nat.beq k 91 || (Nat.beq k 92 || (Nat.beq k 64 && Nat.beq j 44))))
theorem x90_B {k j : Nat} (h : xB k j = false) : x90 k j = false := by
  unfold xB at h
  simp only [Bool.or_eq_false_iff] at h
  exact h.2.1
def wtO (F : Nat → Nat → Nat → Bool) (ov : Nat → Nat → Nat → Nat → Bool) (B W n : Nat) (a : Nat → Nat) : Nat → Nat := (plM F ov B W n a (fun _ => 0)).getD (fun _ => 0)
def MS (h0 h : am_M) (n B W : Nat) (F : Nat → Nat → Nat → Bool) (ov : Nat → Nat → Nat → Nat → Bool) (a : Nat → Nat) (k : Nat) (st : plT) : Prop := fr xB h0 h ∧ (h 64 44 = Int32.ofNat st.1 - 1 ∧ st.1 ≤ 6) ∧ (∀ j, j < k → h 89 j = Int32.ofNat (a j)) ∧ (0 < st.1 → ∀ j, j < n → st.2 j ≤ B ∧ h 91 j = Int32.ofNat (st.2 j) ∧ (st.2 j < B → h 92 j = Int32.ofNat (wtO F ov B W n st.2 j)) ∧ (¬ st.2 j < B → h 92 j = -1))
section
variable {h0 : am_M} {n B W : Nat} {ar sy : Nat → Nat} {F : Nat → Nat → Nat → Bool}
theorem MS.down {h : am_M} {a : Nat → Nat} {k b : Nat} {st : plT} {ov : Nat → Nat → Nat → Nat → Bool} (H : MS h0 h n B W F ov (plU a k b) (k + 1) st) : MS h0 h n B W F ov a k st := by
  obtain ⟨h1, h2, h3, h4⟩ := H
  exact ⟨h1, h2, fun j hj => by rw [h3 j (by omega), plU_o _ _ (by omega)], h4⟩
theorem MS.put {h : am_M} {a : Nat → Nat} {k b : Nat} {st : plT} {ov : Nat → Nat → Nat → Nat → Bool} (H : MS h0 h n B W F ov a k st) : MS h0 (am_set h 89 k (Int32.ofNat b)) n B W F ov (plU a k b) (k + 1) st := by
  obtain ⟨h1, h2, h3, h4⟩ := H
  refine ⟨h1.set 89 k _ rfl, h2, fun j hj => ?_, h4⟩
  by_cases e : j = k
  · subst e; rw [as_self, plU_s]
  · rw [as_slot _ _ _ e, plU_o _ _ e]; exact h3 j (by omega)
theorem ok_no {s b : Nat} (hW : W ≤ 2) (h0 : ft1 W F s b 0 = 0) (h1 : ft1 W F s b 1 = 0) (h2 : ft1 W F s b 2 = 0) : anyF (fun x => F s b x) 0 (W + 1) = false := by
  rw [ft1_0] at h0 h1 h2
  cases hc : anyF (fun x => F s b x) 0 (W + 1) with
  | false => rfl
  | true =>
    exfalso
    obtain ⟨x, _, hx, hF⟩ := (anyF_iff (W + 1) 0).1 hc
    have e : x = 0 ∨ x = 1 ∨ x = 2 := by omega
    rcases e with e | e | e <;> subst e
    · rw [hF, decide_eq_true (by omega)] at h0; cases h0
    · rw [hF, decide_eq_true (by omega)] at h1; cases h1
    · rw [hF, decide_eq_true (by omega)] at h2; cases h2
theorem ok_yes {s b x : Nat} (hx : ¬ ft1 W F s b x = 0) : anyF (fun x => F s b x) 0 (W + 1) = true := by
  rw [ft1_0, Bool.not_eq_false, Bool.and_eq_true, decide_eq_true_eq] at hx
  exact (anyF_iff (W + 1) 0).2 ⟨x, by omega, by omega, hx.2⟩
set_option maxHeartbeats 4000000 in
theorem mx_185 (hm : mlc h0 n B W ar sy) (hF : mft h0 n B W F) : ∀ (m s many : Nat) (a : Nat → Nat) (st : plT) (h : am_M), s + m = n → many ≤ s → (∀ o, o < s → a o ≤ B) → MS h0 h n B W F (plOv ar sy) a s st → mx (m + 8) 185 0 [some (.ref 64), some (.int (Int32.ofNat s)), some (.int (Int32.ofNat many)), none] [] h (fun v h1 => v = none ∧ MS h0 h1 n B W F (plOv ar sy) a s (plG (fun s b => anyF (fun x => F s b x) 0 (W + 1)) (plE F (plOv ar sy) B W n) B m s many a st)) := by
  have hm' := hm
  obtain ⟨⟨hn5, hB5, hW2⟩, ⟨en, eB, eW⟩, hA⟩ := hm'
  have sub : ∀ many s : Nat, s ≤ n → Int32.ofNat many + Int32.ofNat n - Int32.ofNat s = Int32.ofNat (many + (n - s)) := fun many s hs => by
    have e : Int32.ofNat many + Int32.ofNat n = Int32.ofNat (many + (n - s)) + Int32.ofNat s := by
      rw [← Int32.ofNat_add, ← Int32.ofNat_add]
      congr 1
      omega
    rw [e, Int32.add_sub_cancel]
  intro m
  induction m with
  | zero =>
    intro s many a st h hs hmany ha H
    have hse : s = n := by omega
    subst hse
    have H' := H
    obtain ⟨f1, ⟨f2, f2'⟩, f3, f4⟩ := H'
    have sb := sub many s (Nat.le_refl _)
    rw [Nat.sub_self, Nat.add_zero] at sb
    simp only [plG]
    by_cases c : st.1 ≤ many
    rotate_left
    · rw [decide_eq_false c, Bool.and_false, cond_false]
      refine .end none h ⟨rfl, H⟩ fun d L xs o g Q T hq => sm_185 ?_
      rw [f2, f1 68 0 rfl, en, sb]
      exact am_iff (fun e => c ((mo_lt (by omega) (by omega)).1 e)) hq
    have M := (mx_186 (h0 := h) (F := F) (a := a) (hm.fr f1 (fun _ => rfl) (fun _ => rfl) (fun _ => rfl)) (fun s b x h1 h2 h3 => by rw [f1 88 _ rfl]; exact hF s b x h1 h2 h3) (fun j hj => ⟨f3 j hj, ha j hj⟩) s 0 (fun _ => 0) h (by omega) (fr.refl _ _) (fun o ho => by omega) (fun o ho => by omega)).more (6 - s)
    rw [show s + 1 + (6 - s) = 7 by omega] at M
    obtain ⟨v, h1, ⟨g1, g2, g3⟩, G⟩ := M
    have run : ∀ {d L : Nat} {xs : Nat → Int32} {o : am_L} {g : Nat} {Q : Option Value → am_M → am_L → Nat → Prop} {T : Nat → am_M → am_L → Nat → Prop}, am_X L xs (d + (0 + 8)) 185 33 [some (.ref 64), some (.int (Int32.ofNat s)), some (.int (Int32.ofNat many)), none] (v.toList ++ []) am_C0 h1 o g Q T → am_X L xs (d + (0 + 8)) 185 0 [some (.ref 64), some (.int (Int32.ofNat s)), some (.int (Int32.ofNat many)), none] [] am_C0 h o g Q T := fun {d L xs o g Q T} hx => by
      refine sm_185 ?_
      rw [f2, f1 68 0 rfl, en, sb]
      exact am_ift ((mo_lt (by omega) (by omega)).2 c) (am_ift rfl (G d L xs o g _ _ hx))
    have f1' : fr xB h0 h1 := f1.trans (g1.mono fun _ _ hk => x90_B hk)
    cases hf : plF (fun s => decide (a s < B)) (plC F (plOv ar sy) a) W s 0 (fun _ => 0) with
    | none =>
      rw [hf] at g3
      subst g3
      have fe : plE F (plOv ar sy) B W s a = false := by
        unfold plE plM
        rw [hf]
        rfl
      rw [fe, Bool.false_and, cond_false]
      refine .end none h1 ⟨rfl, f1', ⟨by rw [g1 64 44 rfl]; exact f2, f2'⟩, fun j hj => by rw [g1 89 j rfl]; exact f3 j hj, fun hp j hj => ?_⟩ fun d L xs o g Q T hq => run (sm_185_33 rfl (am_ift rfl hq))
      rw [g1 91 j rfl, g1 92 j rfl]
      exact f4 hp j hj
    | some w' =>
      rw [hf] at g3
      obtain ⟨rfl, g4⟩ := g3
      have fe : plE F (plOv ar sy) B W s a = true := by
        unfold plE plM
        rw [hf]
        rfl
      have ew : wtO F (plOv ar sy) B W s a = w' := by
        unfold wtO plM
        rw [hf]
        rfl
      rw [fe, decide_eq_true c, Bool.and_self, cond_true]
      have cp : ∀ (r k : Nat) (h' : am_M), k + r = s → fr xB h0 h' → h' 64 44 = Int32.ofNat many → (∀ j, h' 89 j = h1 89 j ∧ h' 90 j = h1 90 j) → (∀ j, j < k → h' 91 j = h1 89 j ∧ h' 92 j = h1 90 j) → mx (0 + 8) 185 44 [some (.ref 64), some (.int (Int32.ofNat s)), some (.int (Int32.ofNat many)), some (.int (Int32.ofNat k))] [] h' (fun v h2 => v = none ∧ MS h0 h2 s B W F (plOv ar sy) a s (many + 1, a)) := by
        intro r
        induction r with
        | zero =>
          intro k h' hk hf' h44 h89 hd
          have hke : k = s := by omega
          subst hke
          refine .end none h' ⟨rfl, hf', ⟨by rw [h44]; show Int32.ofNat many = Int32.ofNat (many + 1) - 1; rw [← nz_succ, Int32.add_sub_cancel], by show many + 1 ≤ 6; omega⟩, fun j hj => ?_, fun _ j hj => ?_⟩ fun d L xs o g Q T hq => sm_185_44 rfl (am_iff (by rw [nz_nlt (by omega) (by omega)]; omega) hq)
          · rw [(h89 j).1, g1 89 j rfl]; exact f3 j hj
          · obtain ⟨q1, q2⟩ := hd j hj
            refine ⟨ha j hj, by rw [q1, g1 89 j rfl]; exact f3 j hj, fun hlt => ?_, fun hn => ?_⟩
            · rw [q2, ew]; exact (g4 j hj).1 hlt
            · rw [q2]; exact (g4 j hj).2 hn
        | succ r ihr =>
          intro k h' hk hf' h44 h89 hd
          refine (ihr (k + 1) (am_set (am_set h' 91 k (h' 89 k)) 92 k (h' 90 k)) (by omega) ((hf'.set 91 k _ rfl).set 92 k _ rfl) h44 h89 (fun j hj => ?_)).go fun d L xs o g Q T hx => sm_185_44 rfl (am_ift (by rw [nz_nlt (by omega) (by omega)]; omega) ⟨ix_n (by omega) (by decide), ?_⟩)
          · by_cases e : j = k
            · subst e
              rw [as_cell _ _ _ (by decide), as_self, as_self]
              exact h89 j
            · rw [as_cell _ _ _ (by decide), as_slot _ _ _ e, as_slot _ _ _ e, as_cell _ _ _ (by decide)]
              exact hd j (by omega)
          · rw [nz_c k (by omega), nz_succ]
            exact hx
      exact (cp s 0 (am_set h1 64 44 (Int32.ofNat many)) (by omega) (f1'.set 64 44 _ rfl) (as_self _ _ _ _) (fun j => ⟨rfl, rfl⟩) (fun j hj => by omega)).go fun d L xs o g Q T hx => run (sm_185_33 rfl (am_iff (by decide) hx))
  | succ m ih =>
    intro s many a st h hs hmany ha H
    have i5 : am_ix (Int32.ofNat s) 5 := ix_n (by omega) (by decide)
    have nes : ¬ Int32.ofNat s = Int32.ofNat n := by rw [nz_inj (by omega) (by omega)]; omega
    have sb := sub many s (by omega)
    by_cases c : st.1 ≤ many + (n - s)
    rotate_left
    · have e : plG (fun s b => anyF (fun x => F s b x) 0 (W + 1)) (plE F (plOv ar sy) B W n) B (m + 1) s many a st = st := plG_hope (n := n) (hp := fun s => n - s) (fun s hs => ⟨by show n - (s + 1) ≤ n - s; omega, fun b _ _ => by show n - (s + 1) + 1 ≤ n - s; omega⟩) (m + 1) s many a st hs (by show many + (n - s) < st.1; omega)
      rw [e]
      refine .end none h ⟨rfl, H⟩ fun d L xs o g Q T hq => sm_185 ?_
      rw [H.2.1.1, H.1 68 0 rfl, en, sb]
      exact am_iff (fun q => c ((mo_lt (by have := H.2.1.2; omega) (by omega)).1 q)) hq
    have lp : ∀ (r b : Nat) (st : plT) (h : am_M), b + r = B + 1 → MS h0 h n B W F (plOv ar sy) a s st → mx (m + 1 + 8) 185 82 [some (.ref 64), some (.int (Int32.ofNat s)), some (.int (Int32.ofNat many)), some (.int (Int32.ofNat b))] [] h (fun v h1 => v = none ∧ MS h0 h1 n B W F (plOv ar sy) a s (itF (fun b st => bif decide (b < B) then (bif anyF (fun x => F s b x) 0 (W + 1) then plG (fun s b => anyF (fun x => F s b x) 0 (W + 1)) (plE F (plOv ar sy) B W n) B m (s + 1) (many + 1) (plU a s b) st else st) else plG (fun s b => anyF (fun x => F s b x) 0 (W + 1)) (plE F (plOv ar sy) B W n) B m (s + 1) many (plU a s b) st) b r st)) := by
      intro r
      induction r with
      | zero =>
        intro b st h hb H
        refine .end none h ⟨rfl, H⟩ fun d L xs o g Q T hq => sm_185_82 ?_
        rw [H.1 68 2 rfl, eB]
        exact am_ift (by rw [nz_nlt (by omega) (by omega)]; omega) hq
      | succ r ihr =>
        intro b st h hb H
        have nlt : ¬ Int32.ofNat B < Int32.ofNat b := by rw [nz_nlt (by omega) (by omega)]; omega
        have haU : ∀ o, o < s + 1 → plU a s b o ≤ B := fun o ho => by
          by_cases e : o = s
          · subst e; rw [plU_s]; omega
          · rw [plU_o _ _ e]; exact ha o (by omega)
        rw [itF]
        by_cases hbB : b < B
        rotate_left
        · obtain ⟨v, h2, ⟨rfl, H2⟩, G⟩ := ih (s + 1) many (plU a s b) st (am_set h 89 s (Int32.ofNat b)) (by omega) (by omega) haU H.put
          rw [decide_eq_false hbB, cond_false]
          refine (ihr (b + 1) _ h2 (by omega) H2.down).go fun d L xs o g Q T hx => sm_185_82 ?_
          rw [H.1 68 2 rfl, eB]
          refine am_iff nlt (am_iff (by rw [nz_nlt (by omega) (by omega)]; exact hbB) ⟨i5, ?_⟩)
          rw [nz_c s (by omega), nz_succ]
          refine G d L xs o g _ _ (sm_185_145 ?_)
          rw [nz_succ]
          exact hx
        rw [decide_eq_true hbB, cond_true]
        have eft : ∀ x, x < 3 → h 88 ((s * 5 + b) * 3 + x) = ft1 W F s b x := fun x hx => by rw [H.1 88 _ rfl]; exact hF s b x (by omega) hbB hx
        obtain ⟨i0, j0⟩ := f183_ix (s := s) (b := b) (x := 0) (by omega) (by omega) (by decide)
        obtain ⟨i1, j1⟩ := f183_ix (s := s) (b := b) (x := 1) (by omega) (by omega) (by decide)
        obtain ⟨i2, j2⟩ := f183_ix (s := s) (b := b) (x := 2) (by omega) (by omega) (by decide)
        have ltb : Int32.ofNat b < Int32.ofNat B := by rw [nz_nlt (by omega) (by omega)]; exact hbB
        obtain ⟨v, h2, ⟨rfl, H2⟩, G⟩ := ih (s + 1) (many + 1) (plU a s b) st (am_set h 89 s (Int32.ofNat b)) (by omega) (by omega) haU H.put
        have yes : anyF (fun x => F s b x) 0 (W + 1) = true → mx (m + 1 + 8) 185 82 [some (.ref 64), some (.int (Int32.ofNat s)), some (.int (Int32.ofNat many)), some (.int (Int32.ofNat (b + 1)))] [] h2 (fun v h1 => v = none ∧ MS h0 h1 n B W F (plOv ar sy) a s (itF (fun b st => bif decide (b < B) then (bif anyF (fun x => F s b x) 0 (W + 1) then plG (fun s b => anyF (fun x => F s b x) 0 (W + 1)) (plE F (plOv ar sy) B W n) B m (s + 1) (many + 1) (plU a s b) st else st) else plG (fun s b => anyF (fun x => F s b x) 0 (W + 1)) (plE F (plOv ar sy) B W n) B m (s + 1) many (plU a s b) st) (b + 1) r (bif anyF (fun x => F s b x) 0 (W + 1) then plG (fun s b => anyF (fun x => F s b x) 0 (W + 1)) (plE F (plOv ar sy) B W n) B m (s + 1) (many + 1) (plU a s b) st else st))) := fun ok => by
          rw [ok, cond_true]
          exact ihr (b + 1) _ h2 (by omega) H2.down
        have run : ∀ {d L : Nat} {xs : Nat → Int32} {o : am_L} {g : Nat} {Q : Option Value → am_M → am_L → Nat → Prop} {T : Nat → am_M → am_L → Nat → Prop}, am_X L xs (d + (m + 1 + 8)) 185 82 [some (.ref 64), some (.int (Int32.ofNat s)), some (.int (Int32.ofNat many)), some (.int (Int32.ofNat (b + 1)))] [] am_C0 h2 o g Q T → am_ix (Int32.ofNat s) 5 ∧ am_X L xs (d + (m + 8)) 185 0 [some (.ref 64), some (.int (Int32.ofNat s + 1)), some (.int (Int32.ofNat many + 1)), none] [] am_C0 (am_set h 89 (Int32.ofNat s).toNatClampNeg (Int32.ofNat b)) o g (fun w h' o' g' => am_X L xs (d + (m + 1 + 8)) 185 145 [some (.ref 64), some (.int (Int32.ofNat s)), some (.int (Int32.ofNat many)), some (.int (Int32.ofNat b))] (w.toList ++ []) am_C0 h' o' g' Q T) T := fun {d L xs o g Q T} hx => by
          refine ⟨i5, ?_⟩
          rw [nz_c s (by omega), nz_succ, nz_succ]
          refine G d L xs o g _ _ (sm_185_145 ?_)
          rw [nz_succ]
          exact hx
        by_cases c0 : ft1 W F s b 0 = 0
        rotate_left
        · refine (yes (ok_yes c0)).go fun d L xs o g Q T hx => sm_185_82 ?_
          rw [H.1 68 2 rfl, eB]
          refine am_iff nlt (am_ift ltb ⟨i0, ?_⟩)
          rw [show (fn_183 (Int32.ofNat s) (Int32.ofNat b) 0).toNatClampNeg = (s * 5 + b) * 3 + 0 from j0, eft 0 (by decide)]
          exact am_iff c0 (run hx)
        by_cases c1 : ft1 W F s b 1 = 0
        rotate_left
        · refine (yes (ok_yes c1)).go fun d L xs o g Q T hx => sm_185_82 ?_
          rw [H.1 68 2 rfl, eB]
          refine am_iff nlt (am_ift ltb ⟨i0, ?_⟩)
          rw [show (fn_183 (Int32.ofNat s) (Int32.ofNat b) 0).toNatClampNeg = (s * 5 + b) * 3 + 0 from j0, eft 0 (by decide)]
          refine am_ift c0 ⟨i1, ?_⟩
          rw [show (fn_183 (Int32.ofNat s) (Int32.ofNat b) 1).toNatClampNeg = (s * 5 + b) * 3 + 1 from j1, eft 1 (by decide)]
          exact am_iff c1 (run hx)
        by_cases c2 : ft1 W F s b 2 = 0
        rotate_left
        · refine (yes (ok_yes c2)).go fun d L xs o g Q T hx => sm_185_82 ?_
          rw [H.1 68 2 rfl, eB]
          refine am_iff nlt (am_ift ltb ⟨i0, ?_⟩)
          rw [show (fn_183 (Int32.ofNat s) (Int32.ofNat b) 0).toNatClampNeg = (s * 5 + b) * 3 + 0 from j0, eft 0 (by decide)]
          refine am_ift c0 ⟨i1, ?_⟩
          rw [show (fn_183 (Int32.ofNat s) (Int32.ofNat b) 1).toNatClampNeg = (s * 5 + b) * 3 + 1 from j1, eft 1 (by decide)]
          refine am_ift c1 ⟨i2, ?_⟩
          rw [show (fn_183 (Int32.ofNat s) (Int32.ofNat b) 2).toNatClampNeg = (s * 5 + b) * 3 + 2 from j2, eft 2 (by decide)]
          exact am_iff c2 (run hx)
        rw [ok_no hW2 c0 c1 c2, cond_false]
        refine (ihr (b + 1) st h (by omega) H).go fun d L xs o g Q T hx => sm_185_82 ?_
        rw [H.1 68 2 rfl, eB]
        refine am_iff nlt (am_ift ltb ⟨i0, ?_⟩)
        rw [show (fn_183 (Int32.ofNat s) (Int32.ofNat b) 0).toNatClampNeg = (s * 5 + b) * 3 + 0 from j0, eft 0 (by decide)]
        refine am_ift c0 ⟨i1, ?_⟩
        rw [show (fn_183 (Int32.ofNat s) (Int32.ofNat b) 1).toNatClampNeg = (s * 5 + b) * 3 + 1 from j1, eft 1 (by decide)]
        refine am_ift c1 ⟨i2, ?_⟩
        rw [show (fn_183 (Int32.ofNat s) (Int32.ofNat b) 2).toNatClampNeg = (s * 5 + b) * 3 + 2 from j2, eft 2 (by decide)]
        refine am_ift c2 ?_
        rw [nz_succ]
        exact hx
    simp only [plG]
    refine (lp (B + 1) 0 st h (by omega) H).go fun d L xs o g Q T hx => sm_185 ?_
    rw [H.2.1.1, H.1 68 0 rfl, en, sb]
    exact am_ift ((mo_lt (by have := H.2.1.2; omega) (by omega)).2 c) (am_iff nes hx)
/-- the most, by the fits that stand -/
theorem mx_184 {wt : Nat → Nat → Nat → Int32} {nd : Nat → Int32} (hm : mlc h0 n B W ar sy) (hF : mft h0 n B W (plFt wt nd)) (a0 : Nat → Nat) : mx 14 184 0 [some (.ref 64)] [] h0 (fun v h1 => v = some (.int (Int32.ofNat (srR wt nd ar sy B W n (0, a0)).1 - 1)) ∧ fr xB h0 h1 ∧ (0 < (srR wt nd ar sy B W n (0, a0)).1 → ∀ j, j < n → (srR wt nd ar sy B W n (0, a0)).2 j ≤ B ∧ h1 91 j = Int32.ofNat ((srR wt nd ar sy B W n (0, a0)).2 j) ∧ ((srR wt nd ar sy B W n (0, a0)).2 j < B → h1 92 j = Int32.ofNat (wtO (plFt wt nd) (plOv ar sy) B W n (srR wt nd ar sy B W n (0, a0)).2 j)) ∧ (¬ (srR wt nd ar sy B W n (0, a0)).2 j < B → h1 92 j = -1))) := by
  have hn5 := hm.1.1
  have f1 : fr xB h0 (am_set h0 64 44 (-1)) := (fr.refl _ _).set 64 44 _ rfl
  have M := (mx_185 (h0 := h0) hm hF n 0 0 (fun _ => 0) (0, a0) (am_set h0 64 44 (-1)) (by omega) (by omega) (fun o ho => by omega) ⟨f1, ⟨as_self _ _ _ _, by show 0 ≤ 6; omega⟩, fun j hj => by omega, fun h => absurd h (Nat.lt_irrefl 0)⟩).more (5 - n)
  rw [show n + 8 + (5 - n) = 13 by omega] at M
  obtain ⟨v, h1, ⟨rfl, g1, ⟨g2, g2'⟩, g3, g4⟩, G⟩ := M
  refine .end _ h1 ⟨rfl, g1, g4⟩ fun d L xs o g Q T hq => sm_184 (G d L xs o g _ _ (sm_184_11 ?_))
  rw [g2]
  exact hq
end
