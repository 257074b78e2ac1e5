/-! ===== what a run comes to: the machine's weakest preconditions ===== -/
theorem am_fuel {L : Nat} {xs : Nat → Int32} : ∀ (n : Nat) {m d mi pc : Nat} {lv : am_V} {st : List Value} {S : am_S} {h : am_M} {o : am_L} {g : Nat} {r : am_O × am_S × am_M × am_L × Nat}, n ≤ m → am_run L xs n d mi pc lv st S h o g = some r → am_run L xs m d mi pc lv st S h o g = some r := by
  intro n
  induction n with
  | zero => intro m d mi pc lv st S h o g r _ hr; simp only [am_run] at hr; cases hr
  | succ n ih =>
    intro m d mi pc lv st S h o g r hm hr
    obtain ⟨m, rfl⟩ : ∃ k, m = k + 1 := ⟨m - 1, by omega⟩
    have hm' : n ≤ m := by omega
    rw [am_run] at hr ⊢
    cases hp : am_P mi pc with
    | none => rw [hp] at hr; cases hr
    | some e =>
      obtain ⟨op, a, b, c, v⟩ := e
      rw [hp] at hr
      simp only at hr ⊢
      cases hs : am_step L xs op a b c v lv st S h o g with
      | none => rw [hs] at hr; cases hr
      | some q =>
        rw [hs] at hr
        rcases q with ⟨pc', lv', st', S', h', o'⟩ | ⟨mj, as, r'⟩ | w | E
        · simp only at hr ⊢
          exact ih hm' hr
        · simp only at hr ⊢
          cases d with
          | zero => cases hr
          | succ d' =>
            simp only at hr ⊢
            cases hc : am_run L xs n d' mj 0 (am_ent as (am_ml mj)) [] S h o g with
            | none => rw [hc] at hr; cases hr
            | some q =>
              rw [hc] at hr
              rw [ih hm' hc]
              obtain ⟨q, S', h', o', g'⟩ := q
              cases q with
              | inr w => simp only at hr ⊢; exact ih hm' hr
              | inl E =>
                simp only at hr ⊢
                by_cases h53 : op = 53
                · rw [if_pos h53] at hr; cases hr
                · rw [if_neg h53] at hr ⊢
                  cases hh : am_hand (am_hd mi) pc E with
                  | none => rw [hh] at hr; exact hr
                  | some y =>
                    rw [hh] at hr
                    obtain ⟨pc', k⟩ := y
                    simp only at hr ⊢
                    exact ih hm' hr
        · exact hr
        · exact hr
/-- it returns, and then Q; or it throws, and then T -/
def am_X (L : Nat) (xs : Nat → Int32) (d mi pc : Nat) (lv : am_V) (st : List Value) (S : am_S) (h : am_M) (o : am_L) (g : Nat) (Q : Option Value → am_M → am_L → Nat → Prop) (T : Nat → am_M → am_L → Nat → Prop) : Prop :=
  ∃ (n : Nat) (r : am_O) (h' : am_M) (o' : am_L) (g' : Nat), am_run L xs n d mi pc lv st S h o g = some (r, S, h', o', g') ∧ (match r with | .inr w => Q w h' o' g' | .inl E => T E h' o' g')
variable {L : Nat} {xs : Nat → Int32} {d mi pc : Nat} {lv lv' : am_V} {st r : List Value} {S : am_S} {h : am_M} {o : am_L} {g : Nat} {Q : Option Value → am_M → am_L → Nat → Prop} {T : Nat → am_M → am_L → Nat → Prop} {a b c : Nat} {v x y z : Int32} {k n : Nat} {i : Int32}
theorem am_X.mono {Q' : Option Value → am_M → am_L → Nat → Prop} {T' : Nat → am_M → am_L → Nat → Prop} (H : am_X L xs d mi pc lv st S h o g Q T) (hQ : ∀ w h o g, Q w h o g → Q' w h o g) (hT : ∀ w h o g, T w h o g → T' w h o g) : am_X L xs d mi pc lv st S h o g Q' T' := by
  obtain ⟨n, r, h', o', g', hr, hq⟩ := H
  refine ⟨n, r, h', o', g', hr, ?_⟩
  cases r with
  | inr w => exact hQ _ _ _ _ hq
  | inl E => exact hT _ _ _ _ hq
theorem am_X.go {op pc' : Nat} {st' : List Value} {h' : am_M} {o' : am_L} (hp : am_P mi pc = some (op, a, b, c, v)) (hs : am_step L xs op a b c v lv st S h o g = some (.inl (pc', lv', st', S, h', o'))) (H : am_X L xs d mi pc' lv' st' S h' o' g Q T) : am_X L xs d mi pc lv st S h o g Q T := by
  obtain ⟨n, r, h2, o2, g2, hr, hq⟩ := H
  refine ⟨n + 1, r, h2, o2, g2, ?_, hq⟩
  simp only [am_run, hp, hs]
  exact hr
/-- an index is good -/
def am_ix (i : Int32) (n : Nat) : Prop := ¬ (i < 0) ∧ i.toNatClampNeg < n
theorem am_ix.no (hi : am_ix i n) (hk : k < am_big) : ¬ (i < 0 ∨ n ≤ i.toNatClampNeg ∨ am_big ≤ k) := by
  have h1 := hi.1
  have h2 := hi.2
  rintro (h | h | h)
  · exact h1 h
  · omega
  · omega
/-- the slot ahead holds no long -/
def am_nl (q : Option Value) : Bool := match q with
  | some w => decide (¬ w.category = 2)
  | none => true
def am_n1 (lv : am_V) (a : Nat) : Prop := a < lv.length ∧ ∀ j, j + 1 = a → am_nl ((lv[j]?).getD none) = true
def am_n1b (lv : am_V) (a : Nat) : Bool := match lv, a with
  | [], _ => false
  | _ :: _, 0 => true
  | q :: _ :: _, 1 => am_nl q
  | _ :: l, a + 1 => am_n1b l a
theorem am_n1b.ok : ∀ {lv : am_V} {a : Nat}, am_n1b lv a = true → am_n1 lv a
  | [], a, h => by simp [am_n1b] at h
  | x :: l, 0, h => ⟨by simp, fun j hj => by omega⟩
  | [x], 1, h => by simp [am_n1b] at h
  | q :: x :: l, 1, h => ⟨by simp, fun j hj => by
      have : j = 0 := by omega
      subst this
      simpa [am_n1b] using h⟩
  | x :: l, a + 2, h => by
      have h' : am_n1b l (a + 1) = true := by
        cases l with
        | nil => simp [am_n1b] at h
        | cons y l => simpa [am_n1b] using h
      have := am_n1b.ok h'
      refine ⟨by have := this.1; simp; omega, fun j hj => ?_⟩
      obtain ⟨j, rfl⟩ : ∃ i, j = i + 1 := ⟨j - 1, by omega⟩
      have h2 := this.2 j (by omega)
      simpa using h2
theorem am_n1.set (h : am_n1 lv a) (v : Option Value) : am_st1 lv a v = lv.set a v := by
  apply List.ext_getElem
  · simp [am_st1]
  · intro j h1 h2
    have hj : j < lv.length := by simpa [am_st1] using h1
    simp only [am_st1, List.getElem_mapIdx, List.getElem_set]
    by_cases hja : j = a
    · rw [if_pos hja, if_pos hja.symm]
    · have hja' : ¬ a = j := fun e => hja e.symm
      rw [if_neg hja, if_neg hja']
      by_cases hj1 : j + 1 = a
      · rw [if_pos hj1]
        have := h.2 j hj1
        rw [List.getElem?_eq_getElem hj] at this
        simp only [Option.getD_some] at this
        cases hw : lv[j] with
        | none => rfl
        | some w =>
          rw [hw] at this
          simp only [am_nl, decide_eq_true_eq] at this
          simp only [if_neg this]
      · rw [if_neg hj1]
theorem xo_0 (hp : am_P mi pc = some (0, a, b, c, v)) (H : am_X L xs d mi c lv (.int v :: st) S h o g Q T) : am_X L xs d mi pc lv st S h o g Q T := am_X.go hp rfl H
theorem xo_1 (hp : am_P mi pc = some (1, a, b, c, v)) (hl : lv[a]? = some (some (.int x))) (H : am_X L xs d mi c lv (.int x :: st) S h o g Q T) : am_X L xs d mi pc lv st S h o g Q T := am_X.go hp (by simp only [am_step, hl]) H
theorem xo_2 (hp : am_P mi pc = some (2, a, b, c, v)) (hl : lv[a]? = some (some (.ref k))) (H : am_X L xs d mi c lv (.ref k :: st) S h o g Q T) : am_X L xs d mi pc lv st S h o g Q T := am_X.go hp (by simp only [am_step, hl]) H
theorem xo_3 {x : Int64} (hp : am_P mi pc = some (3, a, b, c, v)) (hl : lv[a]? = some (some (.long x))) (H : am_X L xs d mi c lv (.long x :: st) S h o g Q T) : am_X L xs d mi pc lv st S h o g Q T := am_X.go hp (by simp only [am_step, hl]) H
theorem xo_4 (hp : am_P mi pc = some (4, a, b, c, v)) (hn : am_n1b lv a = true) (he : lv.set a (some (.int x)) = lv') (H : am_X L xs d mi c lv' st S h o g Q T) : am_X L xs d mi pc lv (.int x :: st) S h o g Q T := am_X.go hp (by simp only [am_step]; rw [if_pos (am_n1b.ok hn).1, (am_n1b.ok hn).set, he]) H
theorem xo_5 (hp : am_P mi pc = some (5, a, b, c, v)) (hn : am_n1b lv a = true) (he : lv.set a (some (.ref k)) = lv') (H : am_X L xs d mi c lv' st S h o g Q T) : am_X L xs d mi pc lv (.ref k :: st) S h o g Q T := am_X.go hp (by simp only [am_step]; rw [if_pos (am_n1b.ok hn).1, (am_n1b.ok hn).set, he]) H
theorem xo_6 {x : Int64} (hp : am_P mi pc = some (6, a, b, c, v)) (hl : a + 1 < lv.length) (hs : am_st2 lv a (some (.long x)) = lv') (H : am_X L xs d mi c lv' st S h o g Q T) : am_X L xs d mi pc lv (.long x :: st) S h o g Q T := am_X.go hp (by simp only [am_step]; rw [if_pos hl, hs]) H
theorem xo_7 (hp : am_P mi pc = some (7, a, b, c, v)) (he : am_bin a x y = some z) (H : am_X L xs d mi c lv (.int z :: st) S h o g Q T) : am_X L xs d mi pc lv (.int y :: .int x :: st) S h o g Q T := am_X.go hp (by simp only [am_step, he]) H
theorem xo_7d (hp : am_P mi pc = some (7, 9, b, c, v)) (he : ¬ y = 0) (H : am_X L xs d mi c lv (.int (x / y) :: st) S h o g Q T) : am_X L xs d mi pc lv (.int y :: .int x :: st) S h o g Q T := am_X.go hp (by simp only [am_step, am_bin, if_neg he]) H
theorem xo_7r (hp : am_P mi pc = some (7, 10, b, c, v)) (he : ¬ y = 0) (H : am_X L xs d mi c lv (.int (x - x / y * y) :: st) S h o g Q T) : am_X L xs d mi pc lv (.int y :: .int x :: st) S h o g Q T := am_X.go hp (by simp only [am_step, am_bin, if_neg he]) H
theorem xo_8 {x y z : Int64} (hp : am_P mi pc = some (8, a, b, c, v)) (he : am_binL a x y = some z) (H : am_X L xs d mi c lv (.long z :: st) S h o g Q T) : am_X L xs d mi pc lv (.long y :: .long x :: st) S h o g Q T := am_X.go hp (by simp only [am_step, he]) H
theorem xo_9 (hp : am_P mi pc = some (9, a, b, c, v)) (hl : lv[a]? = some (some (.int x))) (hz : x + v = z) (hn : am_n1b lv a = true) (he : lv.set a (some (.int z)) = lv') (H : am_X L xs d mi c lv' st S h o g Q T) : am_X L xs d mi pc lv st S h o g Q T := am_X.go hp (by simp only [am_step, hl]; rw [(am_n1b.ok hn).set, hz, he]) H
theorem xo_10 (hp : am_P mi pc = some (10, a, b, c, v)) (hc : am_cmp a x 0 = true) (H : am_X L xs d mi b lv st S h o g Q T) : am_X L xs d mi pc lv (.int x :: st) S h o g Q T := am_X.go hp (by simp only [am_step, hc, cond_true]) H
theorem xo_10n (hp : am_P mi pc = some (10, a, b, c, v)) (hc : am_cmp a x 0 = false) (H : am_X L xs d mi c lv st S h o g Q T) : am_X L xs d mi pc lv (.int x :: st) S h o g Q T := am_X.go hp (by simp only [am_step, hc, cond_false]) H
theorem xo_11 (hp : am_P mi pc = some (11, a, b, c, v)) (hc : am_cmp a x y = true) (H : am_X L xs d mi b lv st S h o g Q T) : am_X L xs d mi pc lv (.int y :: .int x :: st) S h o g Q T := am_X.go hp (by simp only [am_step, hc, cond_true]) H
theorem xo_11n (hp : am_P mi pc = some (11, a, b, c, v)) (hc : am_cmp a x y = false) (H : am_X L xs d mi c lv st S h o g Q T) : am_X L xs d mi pc lv (.int y :: .int x :: st) S h o g Q T := am_X.go hp (by simp only [am_step, hc, cond_false]) H
theorem xo_10eq (hp : am_P mi pc = some (10, 0, b, c, v)) (H : if x = 0 then am_X L xs d mi b lv st S h o g Q T else am_X L xs d mi c lv st S h o g Q T) : am_X L xs d mi pc lv (.int x :: st) S h o g Q T := by
  by_cases hc : x = 0
  · rw [if_pos hc] at H; exact xo_10 hp (by simp [am_cmp, hc]) H
  · rw [if_neg hc] at H; exact xo_10n hp (by simp [am_cmp, hc]) H
theorem xo_10ne (hp : am_P mi pc = some (10, 1, b, c, v)) (H : if x = 0 then am_X L xs d mi c lv st S h o g Q T else am_X L xs d mi b lv st S h o g Q T) : am_X L xs d mi pc lv (.int x :: st) S h o g Q T := by
  by_cases hc : x = 0
  · rw [if_pos hc] at H; exact xo_10n hp (by simp [am_cmp, hc]) H
  · rw [if_neg hc] at H; exact xo_10 hp (by simp [am_cmp, hc]) H
theorem xo_10lt (hp : am_P mi pc = some (10, 2, b, c, v)) (H : if x < 0 then am_X L xs d mi b lv st S h o g Q T else am_X L xs d mi c lv st S h o g Q T) : am_X L xs d mi pc lv (.int x :: st) S h o g Q T := by
  by_cases hc : x < 0
  · rw [if_pos hc] at H; exact xo_10 hp (by simp [am_cmp, hc]) H
  · rw [if_neg hc] at H; exact xo_10n hp (by simp only [am_cmp, hc, decide_false]) H
theorem xo_10ge (hp : am_P mi pc = some (10, 3, b, c, v)) (H : if x < 0 then am_X L xs d mi c lv st S h o g Q T else am_X L xs d mi b lv st S h o g Q T) : am_X L xs d mi pc lv (.int x :: st) S h o g Q T := by
  by_cases hc : x < 0
  · rw [if_pos hc] at H; exact xo_10n hp (by simp only [am_cmp, decide_eq_false_iff_not, Int32.not_le]; exact hc) H
  · rw [if_neg hc] at H; exact xo_10 hp (by simp only [am_cmp, decide_eq_true_eq]; exact Int32.not_lt.mp hc) H
theorem xo_10gt (hp : am_P mi pc = some (10, 4, b, c, v)) (H : if 0 < x then am_X L xs d mi b lv st S h o g Q T else am_X L xs d mi c lv st S h o g Q T) : am_X L xs d mi pc lv (.int x :: st) S h o g Q T := by
  by_cases hc : 0 < x
  · rw [if_pos hc] at H; exact xo_10 hp (by simp only [am_cmp, decide_eq_true_eq]; exact hc) H
  · rw [if_neg hc] at H; exact xo_10n hp (by simp only [am_cmp, decide_eq_false_iff_not]; exact hc) H
theorem xo_10le (hp : am_P mi pc = some (10, 5, b, c, v)) (H : if 0 < x then am_X L xs d mi c lv st S h o g Q T else am_X L xs d mi b lv st S h o g Q T) : am_X L xs d mi pc lv (.int x :: st) S h o g Q T := by
  by_cases hc : 0 < x
  · rw [if_pos hc] at H; exact xo_10n hp (by simp only [am_cmp, decide_eq_false_iff_not, Int32.not_le]; exact hc) H
  · rw [if_neg hc] at H; exact xo_10 hp (by simp only [am_cmp, decide_eq_true_eq]; exact Int32.not_lt.mp hc) H
theorem xo_11eq (hp : am_P mi pc = some (11, 0, b, c, v)) (H : if x = y then am_X L xs d mi b lv st S h o g Q T else am_X L xs d mi c lv st S h o g Q T) : am_X L xs d mi pc lv (.int y :: .int x :: st) S h o g Q T := by
  by_cases hc : x = y
  · rw [if_pos hc] at H; exact xo_11 hp (by simp [am_cmp, hc]) H
  · rw [if_neg hc] at H; exact xo_11n hp (by simp [am_cmp, hc]) H
theorem xo_11ne (hp : am_P mi pc = some (11, 1, b, c, v)) (H : if x = y then am_X L xs d mi c lv st S h o g Q T else am_X L xs d mi b lv st S h o g Q T) : am_X L xs d mi pc lv (.int y :: .int x :: st) S h o g Q T := by
  by_cases hc : x = y
  · rw [if_pos hc] at H; exact xo_11n hp (by simp [am_cmp, hc]) H
  · rw [if_neg hc] at H; exact xo_11 hp (by simp [am_cmp, hc]) H
theorem xo_11lt (hp : am_P mi pc = some (11, 2, b, c, v)) (H : if x < y then am_X L xs d mi b lv st S h o g Q T else am_X L xs d mi c lv st S h o g Q T) : am_X L xs d mi pc lv (.int y :: .int x :: st) S h o g Q T := by
  by_cases hc : x < y
  · rw [if_pos hc] at H; exact xo_11 hp (by simp only [am_cmp, decide_eq_true_eq]; exact hc) H
  · rw [if_neg hc] at H; exact xo_11n hp (by simp only [am_cmp, decide_eq_false_iff_not]; exact hc) H
theorem xo_11ge (hp : am_P mi pc = some (11, 3, b, c, v)) (H : if x < y then am_X L xs d mi c lv st S h o g Q T else am_X L xs d mi b lv st S h o g Q T) : am_X L xs d mi pc lv (.int y :: .int x :: st) S h o g Q T := by
  by_cases hc : x < y
  · rw [if_pos hc] at H; exact xo_11n hp (by simp only [am_cmp, decide_eq_false_iff_not, Int32.not_le]; exact hc) H
  · rw [if_neg hc] at H; exact xo_11 hp (by simp only [am_cmp, decide_eq_true_eq]; exact Int32.not_lt.mp hc) H
theorem xo_11gt (hp : am_P mi pc = some (11, 4, b, c, v)) (H : if y < x then am_X L xs d mi b lv st S h o g Q T else am_X L xs d mi c lv st S h o g Q T) : am_X L xs d mi pc lv (.int y :: .int x :: st) S h o g Q T := by
  by_cases hc : y < x
  · rw [if_pos hc] at H; exact xo_11 hp (by simp only [am_cmp, decide_eq_true_eq]; exact hc) H
  · rw [if_neg hc] at H; exact xo_11n hp (by simp only [am_cmp, decide_eq_false_iff_not]; exact hc) H
theorem xo_11le (hp : am_P mi pc = some (11, 5, b, c, v)) (H : if y < x then am_X L xs d mi c lv st S h o g Q T else am_X L xs d mi b lv st S h o g Q T) : am_X L xs d mi pc lv (.int y :: .int x :: st) S h o g Q T := by
  by_cases hc : y < x
  · rw [if_pos hc] at H; exact xo_11n hp (by simp only [am_cmp, decide_eq_false_iff_not, Int32.not_le]; exact hc) H
  · rw [if_neg hc] at H; exact xo_11 hp (by simp only [am_cmp, decide_eq_true_eq]; exact Int32.not_lt.mp hc) H
theorem xo_12 (hp : am_P mi pc = some (12, a, b, c, v)) (H : am_X L xs d mi b lv st S h o g Q T) : am_X L xs d mi pc lv st S h o g Q T := am_X.go hp rfl H
/-- field b of cell k, an object of kind a: a number; a reference -/
def am_fI (S : am_S) (k a b : Nat) : Prop := k < am_big ∧ ∃ fl, S[k]? = some (.inr (.inr (a, fl))) ∧ fl[b]? = some none
def am_fR (S : am_S) (k a b w : Nat) : Prop := k < am_big ∧ ∃ fl, S[k]? = some (.inr (.inr (a, fl))) ∧ fl[b]? = some (some (.ref w))
def am_aI (S : am_S) (k t n : Nat) : Prop := k < am_big ∧ S[k]? = some (.inl (t, n))
def am_aR (S : am_S) (k t n : Nat) (f : Nat → Option Nat) : Prop := k < am_big ∧ (t = 4 ∨ t = 5) ∧ S[k]? = some (.inr (.inl (t, n, f)))
theorem xo_13 (hp : am_P mi pc = some (13, a, b, c, v)) (hf : am_fI S k a b) (H : am_X L xs d mi c lv (.int (h k b) :: st) S h o g Q T) : am_X L xs d mi pc lv (.ref k :: st) S h o g Q T := by
  obtain ⟨hk, fl, h1, h2⟩ := hf
  exact am_X.go hp (by simp only [am_step, h1, h2, hk, and_self, if_true]) H
theorem xo_13r {w : Nat} (hp : am_P mi pc = some (13, a, b, c, v)) (hf : am_fR S k a b w) (H : am_X L xs d mi c lv (.ref w :: st) S h o g Q T) : am_X L xs d mi pc lv (.ref k :: st) S h o g Q T := by
  obtain ⟨hk, fl, h1, h2⟩ := hf
  exact am_X.go hp (by simp only [am_step, h1, h2, hk, and_self, if_true]) H
theorem xo_14 (hp : am_P mi pc = some (14, a, b, c, v)) (hf : am_fI S k a b) (H : am_X L xs d mi c lv st S (am_set h k b x) o g Q T) : am_X L xs d mi pc lv (.int x :: .ref k :: st) S h o g Q T := by
  obtain ⟨hk, fl, h1, h2⟩ := hf
  exact am_X.go hp (by simp only [am_step, h1, h2, hk, and_self, if_true]) H
theorem xo_15 (hp : am_P mi pc = some (15, a, b, c, v)) (hf : am_fI S k a b) (hx : am_bit x = true) (H : am_X L xs d mi c lv st S (am_set h k b x) o g Q T) : am_X L xs d mi pc lv (.int x :: .ref k :: st) S h o g Q T := by
  obtain ⟨hk, fl, h1, h2⟩ := hf
  exact am_X.go hp (by simp only [am_step, h1, h2, hk, hx, and_self, if_true]) H
theorem xo_17s (hp : am_P mi pc = some (17, a, b, c, v)) (hi : am_ix i L) (H : am_X L xs d mi c lv (.int (xs i.toNatClampNeg) :: st) S h o g Q T) : am_X L xs d mi pc lv (.int i :: .ref am_scr :: st) S h o g Q T :=
  am_X.go hp (by
    have h1 := hi.1
    have h2 := hi.2
    simp only [am_step, if_true]
    rw [if_neg (by rintro (h | h); exact h1 h; omega)]) H
theorem am_nscr (hk : k < am_big) : ¬ k = am_scr := by
  intro h
  subst h
  exact absurd hk (by decide)
theorem xo_17 (hp : am_P mi pc = some (17, a, b, c, v)) (hf : am_aI S k 0 n) (hi : am_ix i n) (H : am_X L xs d mi c lv (.int (h k i.toNatClampNeg) :: st) S h o g Q T) : am_X L xs d mi pc lv (.int i :: .ref k :: st) S h o g Q T :=
  am_X.go hp (by simp only [am_step, hf.2, if_neg (hi.no hf.1), if_neg (am_nscr hf.1)]) H
theorem xo_18 (hp : am_P mi pc = some (18, a, b, c, v)) (hf : am_aI S k 1 n) (hi : am_ix i n) (H : am_X L xs d mi c lv (.int (h k i.toNatClampNeg) :: st) S h o g Q T) : am_X L xs d mi pc lv (.int i :: .ref k :: st) S h o g Q T :=
  am_X.go hp (by simp only [am_step, hf.2, if_neg (hi.no hf.1)]) H
theorem xo_18b (hp : am_P mi pc = some (18, a, b, c, v)) (hf : am_aI S k 2 n) (hi : am_ix i n) (H : am_X L xs d mi c lv (.int (h k i.toNatClampNeg) :: st) S h o g Q T) : am_X L xs d mi pc lv (.int i :: .ref k :: st) S h o g Q T :=
  am_X.go hp (by simp only [am_step, hf.2, if_neg (hi.no hf.1)]) H
theorem xo_20 {t w : Nat} {f : Nat → Option Nat} (hp : am_P mi pc = some (20, a, b, c, v)) (hf : am_aR S k t n f) (hi : am_ix i n) (hw : f i.toNatClampNeg = some w) (H : am_X L xs d mi c lv (.ref w :: st) S h o g Q T) : am_X L xs d mi pc lv (.int i :: .ref k :: st) S h o g Q T :=
  am_X.go hp (by
    obtain ⟨h0, h1, h2⟩ := hf
    simp only [am_step, h2]
    rw [if_neg (by
      rintro (h | h | h | h)
      · exact hi.1 h
      · have := hi.2; omega
      · omega
      · exact h h1)]
    simp only [hw]) H
theorem xo_21 (hp : am_P mi pc = some (21, a, b, c, v)) (hf : am_aI S k 3 n) (hi : am_ix i n) (H : am_X L xs d mi c lv (.long (o k i.toNatClampNeg) :: st) S h o g Q T) : am_X L xs d mi pc lv (.int i :: .ref k :: st) S h o g Q T :=
  am_X.go hp (by simp only [am_step, hf.2, if_neg (hi.no hf.1)]) H
theorem xo_22 (hp : am_P mi pc = some (22, a, b, c, v)) (hf : am_aI S k 0 n) (hi : am_ix i n) (H : am_X L xs d mi c lv st S (am_set h k i.toNatClampNeg x) o g Q T) : am_X L xs d mi pc lv (.int x :: .int i :: .ref k :: st) S h o g Q T :=
  am_X.go hp (by simp only [am_step, hf.2, if_neg (hi.no hf.1)]) H
theorem xo_23 (hp : am_P mi pc = some (23, a, b, c, v)) (hf : am_aI S k 1 n) (hi : am_ix i n) (H : am_X L xs d mi c lv st S (am_set h k i.toNatClampNeg (vp_nar .byte x)) o g Q T) : am_X L xs d mi pc lv (.int x :: .int i :: .ref k :: st) S h o g Q T :=
  am_X.go hp (by simp only [am_step, hf.2, if_neg (hi.no hf.1)]) H
theorem xo_23b (hp : am_P mi pc = some (23, a, b, c, v)) (hf : am_aI S k 2 n) (hi : am_ix i n) (H : am_X L xs d mi c lv st S (am_set h k i.toNatClampNeg (vp_nar .boolean x)) o g Q T) : am_X L xs d mi pc lv (.int x :: .int i :: .ref k :: st) S h o g Q T :=
  am_X.go hp (by simp only [am_step, hf.2, if_neg (hi.no hf.1)]) H
theorem xo_26 {x : Int64} (hp : am_P mi pc = some (26, a, b, c, v)) (hf : am_aI S k 3 n) (hi : am_ix i n) (H : am_X L xs d mi c lv st S h (am_setL o k i.toNatClampNeg x) g Q T) : am_X L xs d mi pc lv (.long x :: .int i :: .ref k :: st) S h o g Q T :=
  am_X.go hp (by simp only [am_step, hf.2, if_neg (hi.no hf.1)]) H
theorem xo_27s (hp : am_P mi pc = some (27, a, b, c, v)) (H : am_X L xs d mi c lv (.int (Int32.ofNat L) :: st) S h o g Q T) : am_X L xs d mi pc lv (.ref am_scr :: st) S h o g Q T :=
  am_X.go hp (by simp only [am_step, if_true]) H
theorem am_nbig (hk : k < am_big) : ¬ am_big ≤ k := by omega
theorem xo_27 {t : Nat} (hp : am_P mi pc = some (27, a, b, c, v)) (hf : am_aI S k t n) (ht : t < 4) (hz : Int32.ofNat n = z) (H : am_X L xs d mi c lv (.int z :: st) S h o g Q T) : am_X L xs d mi pc lv (.ref k :: st) S h o g Q T :=
  am_X.go hp (by simp only [am_step, if_neg (am_nscr hf.1), if_neg (am_nbig hf.1), hf.2, if_pos ht, hz]) H
theorem xo_27r {t : Nat} {f : Nat → Option Nat} (hp : am_P mi pc = some (27, a, b, c, v)) (hf : am_aR S k t n f) (hz : Int32.ofNat n = z) (H : am_X L xs d mi c lv (.int z :: st) S h o g Q T) : am_X L xs d mi pc lv (.ref k :: st) S h o g Q T :=
  am_X.go hp (by simp only [am_step, if_neg (am_nscr hf.1), if_neg (am_nbig hf.1), hf.2.2, if_pos hf.2.1, hz]) H
theorem xo_28 {w : Value} (hp : am_P mi pc = some (28, a, b, c, v)) (hw : w.category = 1) (H : am_X L xs d mi c lv (w :: w :: st) S h o g Q T) : am_X L xs d mi pc lv (w :: st) S h o g Q T := am_X.go hp (by simp only [am_step, if_pos hw]) H
theorem xo_29 {w u : Value} (hp : am_P mi pc = some (29, a, b, c, v)) (hw : w.category = 1 ∧ u.category = 1) (H : am_X L xs d mi c lv (w :: u :: w :: u :: st) S h o g Q T) : am_X L xs d mi pc lv (w :: u :: st) S h o g Q T := am_X.go hp (by simp only [am_step, if_pos hw]) H
theorem xo_30 {w : Value} (hp : am_P mi pc = some (30, a, b, c, v)) (hw : w.category = 1) (H : am_X L xs d mi c lv st S h o g Q T) : am_X L xs d mi pc lv (w :: st) S h o g Q T := am_X.go hp (by simp only [am_step, if_pos hw]) H
theorem xo_31 (hp : am_P mi pc = some (31, a, b, c, v)) (H : am_X L xs d mi c lv (.long (Int64.ofNat a) :: st) S h o g Q T) : am_X L xs d mi pc lv st S h o g Q T := am_X.go hp rfl H
theorem xo_32 (hp : am_P mi pc = some (32, a, b, c, v)) (H : am_X L xs d mi c lv (.long x.toInt64 :: st) S h o g Q T) : am_X L xs d mi pc lv (.int x :: st) S h o g Q T := am_X.go hp rfl H
theorem xo_33 {x : Int64} (hp : am_P mi pc = some (33, a, b, c, v)) (H : am_X L xs d mi c lv (.long (x <<< (y.toInt64 &&& 63)) :: st) S h o g Q T) : am_X L xs d mi pc lv (.int y :: .long x :: st) S h o g Q T := am_X.go hp rfl H
theorem xo_34 {x y : Int64} (hp : am_P mi pc = some (34, a, b, c, v)) (H : am_X L xs d mi c lv (.int (lg_cmp x y) :: st) S h o g Q T) : am_X L xs d mi pc lv (.long y :: .long x :: st) S h o g Q T := am_X.go hp rfl H
theorem xo_35 (hp : am_P mi pc = some (35, a, b, c, v)) (H : am_X L xs d mi c lv (.int x.toInt8.toInt32 :: st) S h o g Q T) : am_X L xs d mi pc lv (.int x :: st) S h o g Q T := am_X.go hp rfl H
theorem xo_41 (hp : am_P mi pc = some (41, a, b, c, v)) (H : Q (some (.int x)) h o g) : am_X L xs d mi pc lv [.int x] S h o g Q T := ⟨1, .inr (some (.int x)), h, o, g, by simp only [am_run, hp, am_step], H⟩
theorem xo_42 (hp : am_P mi pc = some (42, a, b, c, v)) (hx : am_bit x = true) (H : Q (some (.int x)) h o g) : am_X L xs d mi pc lv [.int x] S h o g Q T := ⟨1, .inr (some (.int x)), h, o, g, by simp only [am_run, hp, am_step, if_pos hx], H⟩
theorem xo_43 (hp : am_P mi pc = some (43, a, b, c, v)) (H : Q (some (.ref k)) h o g) : am_X L xs d mi pc lv [.ref k] S h o g Q T := ⟨1, .inr (some (.ref k)), h, o, g, by simp only [am_run, hp, am_step], H⟩
theorem xo_44 (hp : am_P mi pc = some (44, a, b, c, v)) (H : Q none h o g) : am_X L xs d mi pc lv [] S h o g Q T := ⟨1, .inr none, h, o, g, by simp only [am_run, hp, am_step], H⟩
theorem xo_45 (hp : am_P mi pc = some (45, a, b, c, v)) (hs : (st.map fun w => w.category).sum ≤ 8) (H : T a h o (g + 1)) : am_X L xs d mi pc lv st S h o g Q T := ⟨1, .inl a, h, o, g + 1, by simp only [am_run, hp, am_step, if_pos hs], H⟩
theorem xo_46 (hp : am_P mi pc = some (46, a, b, c, v)) (hk : am_big + a = k) (H : am_X L xs d mi c lv (.ref k :: st) S h o g Q T) : am_X L xs d mi pc lv st S h o g Q T := am_X.go hp (by simp only [am_step, hk]) H
theorem xo_47x (hp : am_P mi pc = some (47, 0, b, c, v)) (hs : (st.map fun w => w.category).sum ≤ 8) (H : am_X L xs d mi c lv (.int (if x < y then y else x) :: st) S h o g Q T) : am_X L xs d mi pc lv (.int y :: .int x :: st) S h o g Q T := am_X.go hp (by simp only [am_step, if_pos hs]) H
theorem xo_47n (hp : am_P mi pc = some (47, 1, b, c, v)) (hs : (st.map fun w => w.category).sum ≤ 8) (H : am_X L xs d mi c lv (.int (if y < x then y else x) :: st) S h o g Q T) : am_X L xs d mi pc lv (.int y :: .int x :: st) S h o g Q T := am_X.go hp (by simp only [am_step, if_pos hs]) H
theorem xo_47a (hp : am_P mi pc = some (47, 2, b, c, v)) (hs : (st.map fun w => w.category).sum ≤ 8) (H : am_X L xs d mi c lv (.int (if 0 ≤ x then x else 0 - x) :: st) S h o g Q T) : am_X L xs d mi pc lv (.int x :: st) S h o g Q T := am_X.go hp (by simp only [am_step, if_pos hs]) H
def am_cpy (h : am_M) (k0 k1 sp dp n : Nat) : am_M := va_up h k1 (va_cpy (h k0) (h k1) sp dp n)
theorem xo_48 {k0 k1 n0 n1 : Nat} {n dp sp : Int32} (hp : am_P mi pc = some (48, a, b, c, v)) (hf0 : am_aI S k0 0 n0) (hf1 : am_aI S k1 0 n1) (hc : ¬ sp < 0 ∧ ¬ dp < 0 ∧ ¬ n < 0 ∧ sp.toNatClampNeg + n.toNatClampNeg ≤ n0 ∧ dp.toNatClampNeg + n.toNatClampNeg ≤ n1) (hs : (st.map fun w => w.category).sum ≤ 8) (H : am_X L xs d mi c lv st S (am_cpy h k0 k1 sp.toNatClampNeg dp.toNatClampNeg n.toNatClampNeg) o g Q T) : am_X L xs d mi pc lv (.int n :: .int dp :: .ref k1 :: .int sp :: .ref k0 :: st) S h o g Q T :=
  am_X.go hp (by
    simp only [am_step, hf0.2, hf1.2]
    rw [if_pos ⟨hc.1, hc.2.1, hc.2.2.1, hc.2.2.2.1, hc.2.2.2.2, hf0.1, hf1.1, hs⟩]
    rfl) H
/-- a string of the program -/
def am_sx (k : Nat) : Prop := am_big ≤ k ∧ k < am_big + 22
theorem xo_49 (hp : am_P mi pc = some (49, a, b, c, v)) (hk : am_sx k) (hs : (st.map fun w => w.category).sum ≤ 8) (H : am_X L xs d mi c lv (.int (Int32.ofNat (am_txt (k - am_big)).length) :: st) S h o g Q T) : am_X L xs d mi pc lv (.ref k :: st) S h o g Q T :=
  am_X.go hp (by simp only [am_step]; rw [if_pos ⟨hk.1, hk.2, hs⟩]) H
theorem xo_50 (hp : am_P mi pc = some (50, a, b, c, v)) (hk : am_sx k) (hi : am_ix i (am_txt (k - am_big)).length) (hs : (st.map fun w => w.category).sum ≤ 8) (H : am_X L xs d mi c lv (.int ((am_txt (k - am_big)).getD i.toNatClampNeg 0) :: st) S h o g Q T) : am_X L xs d mi pc lv (.int i :: .ref k :: st) S h o g Q T :=
  am_X.go hp (by simp only [am_step]; rw [if_pos ⟨hk.1, hk.2, hi.1, hi.2, hs⟩]) H
theorem xo_49w {tx : List Int32} (hp : am_P mi pc = some (49, a, b, c, v)) (hk : am_sx k) (ht : am_txt (k - am_big) = tx) (hs : (st.map fun w => w.category).sum ≤ 8) (H : am_X L xs d mi c lv (.int (Int32.ofNat tx.length) :: st) S h o g Q T) : am_X L xs d mi pc lv (.ref k :: st) S h o g Q T := by
  subst ht
  exact xo_49 hp hk hs H
theorem xo_50w {tx : List Int32} (hp : am_P mi pc = some (50, a, b, c, v)) (hk : am_sx k) (ht : am_txt (k - am_big) = tx) (hi : am_ix i tx.length) (hs : (st.map fun w => w.category).sum ≤ 8) (H : am_X L xs d mi c lv (.int (tx.getD i.toNatClampNeg 0) :: st) S h o g Q T) : am_X L xs d mi pc lv (.int i :: .ref k :: st) S h o g Q T := by
  subst ht
  exact xo_50 hp hk hi hs H
theorem xo_52 {t : Nat} (hp : am_P mi pc = some (52, a, b, c, v)) (ht : (if x.toInt < (am_sw a).1 ∨ (am_sw a).2.1 < x.toInt then some (am_sw a).2.2.1 else (am_sw a).2.2.2[(x.toInt - (am_sw a).1).toNat]?) = some t) (H : am_X L xs d mi t lv st S h o g Q T) : am_X L xs d mi pc lv (.int x :: st) S h o g Q T := by
  refine am_X.go hp (pc' := t) (lv' := lv) (st' := st) (h' := h) (o' := o) ?_ H
  simp only [am_step]
  split at ht
  · rename_i hc
    rw [if_pos hc]
    cases ht
    rfl
  · rename_i hc
    rw [if_neg hc]
    simp only [ht]
theorem am_X.call {op : Nat} {as : List Value} (hp : am_P mi pc = some (op, a, b, c, v)) (h53 : ¬ op = 53) (hs : am_step L xs op a b c v lv st S h o g = some (.inr (.inl (k, as, r)))) (H : am_X L xs d k 0 (am_ent as (am_ml k)) [] S h o g (fun w h' o' g' => am_X L xs (d + 1) mi c lv (w.toList ++ r) S h' o' g' Q T) (fun E h' o' g' => match am_hand (am_hd mi) pc E with | none => T E h' o' g' | some (pc', j) => am_X L xs (d + 1) mi pc' (am_st1 lv j none) [] S h' o' g' Q T)) : am_X L xs (d + 1) mi pc lv st S h o g Q T := by
  obtain ⟨n, q, h1, o1, g1, hr, hq⟩ := H
  cases q with
  | inr w =>
    obtain ⟨m, q2, h2, o2, g2, hr2, hq2⟩ := hq
    refine ⟨n + m + 1, q2, h2, o2, g2, ?_, hq2⟩
    simp only [am_run, hp, hs]
    rw [am_fuel n (by omega) hr]
    simp only []
    exact am_fuel m (by omega) hr2
  | inl E =>
    simp only at hq
    split at hq
    · rename_i hh
      refine ⟨n + 1, .inl E, h1, o1, g1, ?_, hq⟩
      simp only [am_run, hp, hs]
      rw [hr]
      simp only [if_neg h53, hh]
    · rename_i hh
      obtain ⟨m, q2, h2, o2, g2, hr2, hq2⟩ := hq
      refine ⟨n + m + 1, q2, h2, o2, g2, ?_, hq2⟩
      simp only [am_run, hp, hs]
      rw [am_fuel n (by omega) hr]
      simp only [if_neg h53, hh]
      exact am_fuel m (by omega) hr2
/-- a call may be made -/
def am_ck (S : am_S) (st : List Value) (b a : Nat) : Prop := b ≤ st.length ∧ ((st.drop b).map fun w => w.category).sum ≤ 8 ∧ (am_args (st.take b).reverse).length ≤ am_ml a ∧ am_recv (am_rc a) (st.take b).reverse S = true
theorem xo_36 (lv' : am_V) (r : List Value) (hp : am_P mi pc = some (36, a, b, c, v)) (hk : am_ck S st b a) (he : am_ent (st.take b).reverse (am_ml a) = lv') (hd : st.drop b = r) (hh : am_hd mi = []) (H : am_X L xs d a 0 lv' [] S h o g (fun w h' o' g' => am_X L xs (d + 1) mi c lv (w.toList ++ r) S h' o' g' Q T) T) : am_X L xs (d + 1) mi pc lv st S h o g Q T := by
  subst he
  subst hd
  refine am_X.call hp (by decide) (k := a) (as := (st.take b).reverse) (r := st.drop b) ?_ ?_
  · simp only [am_step]
    exact if_pos hk
  · rw [hh]
    exact H
theorem xo_36h (lv' : am_V) (r : List Value) (hp : am_P mi pc = some (36, a, b, c, v)) (hk : am_ck S st b a) (he : am_ent (st.take b).reverse (am_ml a) = lv') (hd : st.drop b = r) (H : am_X L xs d a 0 lv' [] S h o g (fun w h' o' g' => am_X L xs (d + 1) mi c lv (w.toList ++ r) S h' o' g' Q T) (fun E h' o' g' => match am_hand (am_hd mi) pc E with | none => T E h' o' g' | some (pc', j) => am_X L xs (d + 1) mi pc' (am_st1 lv j none) [] S h' o' g' Q T)) : am_X L xs (d + 1) mi pc lv st S h o g Q T := by
  subst he
  subst hd
  refine am_X.call hp (by decide) (k := a) (as := (st.take b).reverse) (r := st.drop b) ?_ H
  simp only [am_step]
  exact if_pos hk
theorem am_sp {c : Prop} [Decidable c] {A B A' B' : Prop} (h1 : c → A → A') (h2 : ¬ c → B → B') (H : if c then A else B) : if c then A' else B' := by
  by_cases hc : c
  · rw [if_pos hc] at H ⊢; exact h1 hc H
  · rw [if_neg hc] at H ⊢; exact h2 hc H
theorem am_ift {c : Prop} [Decidable c] {A B : Prop} (hc : c) (h : A) : if c then A else B := by rw [if_pos hc]; exact h
theorem am_iff {c : Prop} [Decidable c] {A B : Prop} (hc : ¬ c) (h : B) : if c then A else B := by rw [if_neg hc]; exact h
theorem am_ix.lit (h : (decide (¬ i < 0) && Nat.blt i.toNatClampNeg n) = true) : am_ix i n := by
  rw [Bool.and_eq_true] at h
  refine ⟨of_decide_eq_true h.1, ?_⟩
  have := h.2
  simp only [Nat.blt, Nat.ble_eq] at this
  omega
def am_fIb (S : am_S) (k a b : Nat) : Bool := Nat.blt k am_big && (match S[k]? with
  | some (.inr (.inr (ci, fl))) => Nat.beq ci a && (match fl[b]? with
    | some none => true
    | _ => false)
  | _ => false)
theorem am_fI.lit (h : am_fIb S k a b = true) : am_fI S k a b := by
  simp only [am_fIb, Bool.and_eq_true] at h
  refine ⟨by have := h.1; simp only [Nat.blt, Nat.ble_eq] at this; omega, ?_⟩
  have h2 := h.2
  split at h2
  · rename_i ci fl hk
    rw [Bool.and_eq_true] at h2
    have e := Nat.eq_of_beq_eq_true h2.1
    subst e
    have h3 := h2.2
    split at h3
    · rename_i hb
      exact ⟨_, hk, hb⟩
    · cases h3
  · cases h2
def am_fRb (S : am_S) (k a b w : Nat) : Bool := Nat.blt k am_big && (match S[k]? with
  | some (.inr (.inr (ci, fl))) => Nat.beq ci a && (match fl[b]? with
    | some (some (.ref u)) => Nat.beq u w
    | _ => false)
  | _ => false)
theorem am_fR.lit {w : Nat} (h : am_fRb S k a b w = true) : am_fR S k a b w := by
  simp only [am_fRb, Bool.and_eq_true] at h
  refine ⟨by have := h.1; simp only [Nat.blt, Nat.ble_eq] at this; omega, ?_⟩
  have h2 := h.2
  split at h2
  · rename_i ci fl hk
    rw [Bool.and_eq_true] at h2
    have e := Nat.eq_of_beq_eq_true h2.1
    subst e
    have h3 := h2.2
    split at h3
    · rename_i hb
      have e2 := Nat.eq_of_beq_eq_true h3
      subst e2
      exact ⟨_, hk, hb⟩
    · cases h3
  · cases h2
theorem am_aI.lit {t : Nat} (hk : Nat.blt k am_big = true) (h : S[k]? = some (.inl (t, n))) : am_aI S k t n := ⟨by simp only [Nat.blt, Nat.ble_eq] at hk; omega, h⟩
theorem am_aR.lit {t : Nat} {f : Nat → Option Nat} (hk : Nat.blt k am_big = true) (ht : (Nat.beq t 4 || Nat.beq t 5) = true) (h : S[k]? = some (.inr (.inl (t, n, f)))) : am_aR S k t n f := ⟨by simp only [Nat.blt, Nat.ble_eq] at hk; omega, by
  rw [Bool.or_eq_true] at ht
  rcases ht with h | h
  · exact .inl (Nat.eq_of_beq_eq_true h)
  · exact .inr (Nat.eq_of_beq_eq_true h), h⟩
theorem xo_49l (hp : am_P mi pc = some (49, a, b, c, v)) (hk : (Nat.ble am_big k && Nat.blt k (am_big + 22)) = true) (hz : Int32.ofNat (am_txt (k - am_big)).length = z) (hs : (st.map fun w => w.category).sum ≤ 8) (H : am_X L xs d mi c lv (.int z :: st) S h o g Q T) : am_X L xs d mi pc lv (.ref k :: st) S h o g Q T := by
  subst hz
  rw [Bool.and_eq_true] at hk
  exact xo_49 hp ⟨Nat.le_of_ble_eq_true hk.1, by have := hk.2; simp only [Nat.blt, Nat.ble_eq] at this; omega⟩ hs H
section
variable {mi' c' d' : Nat} {lv2 : am_V} {T' : Nat → am_M → am_L → Nat → Prop} {rr : List Value}
theorem xr_41 (hp : am_P mi pc = some (41, a, b, c, v)) (H : am_X L xs d' mi' c' lv2 (.int x :: rr) S h o g Q T) : am_X L xs d mi pc lv [.int x] S h o g (fun w h' o' g' => am_X L xs d' mi' c' lv2 (w.toList ++ rr) S h' o' g' Q T) T' := xo_41 hp H
theorem xr_42 (hp : am_P mi pc = some (42, a, b, c, v)) (hx : am_bit x = true) (H : am_X L xs d' mi' c' lv2 (.int x :: rr) S h o g Q T) : am_X L xs d mi pc lv [.int x] S h o g (fun w h' o' g' => am_X L xs d' mi' c' lv2 (w.toList ++ rr) S h' o' g' Q T) T' := xo_42 hp hx H
theorem xr_43 (hp : am_P mi pc = some (43, a, b, c, v)) (H : am_X L xs d' mi' c' lv2 (.ref k :: rr) S h o g Q T) : am_X L xs d mi pc lv [.ref k] S h o g (fun w h' o' g' => am_X L xs d' mi' c' lv2 (w.toList ++ rr) S h' o' g' Q T) T' := xo_43 hp H
theorem xr_44 (hp : am_P mi pc = some (44, a, b, c, v)) (H : am_X L xs d' mi' c' lv2 rr S h o g Q T) : am_X L xs d mi pc lv [] S h o g (fun w h' o' g' => am_X L xs d' mi' c' lv2 (w.toList ++ rr) S h' o' g' Q T) T' := xo_44 hp H
end
