/-! ===== hours as bits ===== -/
def rpL (t : Int64) (f : Nat → Bool) : Prop := ∀ i, i < 64 → t.toBitVec.getLsbD i = f i
theorem rp_zero : rpL (Int64.ofNat 0) (fun _ => false) := fun i _ => by
  show (Int64.ofNat 0).toBitVec.getLsbD i = false
  have : (Int64.ofNat 0).toBitVec = 0#64 := rfl
  rw [this]
  exact BitVec.getLsbD_zero
theorem rp_or {a b : Int64} {f g : Nat → Bool} (ha : rpL a f) (hb : rpL b g) : rpL (a ||| b) (fun i => f i || g i) := fun i hi => by
  rw [Int64.toBitVec_or, BitVec.getLsbD_or, ha i hi, hb i hi]
theorem lg_zero {x y : Int64} : lg_cmp x y = 0 ↔ x = y := by
  unfold lg_cmp
  by_cases e : x = y
  · subst e
    have : ¬ x > x := by
      intro h
      have := Int64.lt_iff_toInt_lt.1 h
      omega
    rw [if_neg this, if_pos rfl]
    simp
  · by_cases g : x > y
    · rw [if_pos g]
      constructor
      · intro h; exact absurd h (by decide)
      · intro h; exact absurd h e
    · rw [if_neg g, if_neg e]
      constructor
      · intro h; exact absurd h (by decide)
      · intro h; exact absurd h e
theorem rp_and {a b : Int64} {f g : Nat → Bool} (ha : rpL a f) (hb : rpL b g) : lg_cmp (a &&& b) (Int64.ofNat 0) = 0 ↔ ∀ i, i < 64 → (f i && g i) = false := by
  rw [lg_zero, ← Int64.toBitVec_inj]
  have z : (Int64.ofNat 0).toBitVec = 0#64 := rfl
  rw [z, Int64.toBitVec_and]
  constructor
  · intro h i hi
    have := congrArg (fun q => q.getLsbD i) h
    simp only [BitVec.getLsbD_and, BitVec.getLsbD_zero] at this
    rw [ha i hi, hb i hi] at this
    exact this
  · intro h
    apply BitVec.eq_of_getLsbD_eq
    intro i hi
    rw [BitVec.getLsbD_and, BitVec.getLsbD_zero, ha i hi, hb i hi]
    exact h i hi
def stL (y a : Nat) : Int64 := (((Int64.ofNat 1) <<< ((Int32.ofNat y).toInt64 &&& 63)) - Int64.ofNat 1) <<< ((Int32.ofNat a).toInt64 &&& 63)
theorem hr_n : ∀ (y : Fin 13) (a : Fin 24) (x : Fin 3), (stL y.val a.val <<< ((Int32.ofNat x.val).toInt64 &&& 63)).toBitVec.toNat = (2 ^ y.val - 1) * 2 ^ (a.val + x.val) := by decide +kernel
theorem hr_rp {y a x : Nat} (hy : y < 13) (ha : a < 24) (hx : x < 3) : rpL (stL y a <<< ((Int32.ofNat x).toInt64 &&& 63)) (fun i => decide (a + x ≤ i ∧ i < a + x + y)) := fun i _ => by
  rw [← BitVec.testBit_toNat, hr_n ⟨y, hy⟩ ⟨a, ha⟩ ⟨x, hx⟩, Nat.testBit_mul_two_pow, Nat.testBit_two_pow_sub_one, Bool.eq_iff_iff]
  simp only [Bool.and_eq_true, decide_eq_true_eq]
  omega
/-! ===== frames ===== -/
def fr (X : Nat → Nat → Bool) (h0 h : am_M) : Prop := ∀ k j, X k j = false → h k j = h0 k j
theorem fr.refl (X : Nat → Nat → Bool) (h : am_M) : fr X h h := fun _ _ _ => rfl
theorem fr.trans {X : Nat → Nat → Bool} {h0 h h1 : am_M} (a : fr X h0 h) (b : fr X h h1) : fr X h0 h1 := fun k j hk => (b k j hk).trans (a k j hk)
theorem fr.mono {X Y : Nat → Nat → Bool} {h0 h : am_M} (a : fr X h0 h) (hX : ∀ k j, Y k j = false → X k j = false) : fr Y h0 h := fun k j hk => a k j (hX k j hk)
theorem fr.set {X : Nat → Nat → Bool} {h0 h : am_M} (a : fr X h0 h) (k j : Nat) (x : Int32) (hX : X k j = true) : fr X h0 (am_set h k j x) := fun k' j' hk => by
  rw [as_get, if_neg (fun e => by rw [e.1, e.2, hX] at hk; cases hk)]
  exact a k' j' hk
/-! ===== fits ===== -/
def plc (h : am_M) (n B W : Nat) (ar sy : Nat → Nat) : Prop := (n ≤ 5 ∧ B ≤ 5 ∧ W ≤ 2) ∧ (h 3 0 = Int32.ofNat n ∧ h 3 2 = Int32.ofNat B ∧ h 12 2 = Int32.ofNat W) ∧ ∀ s, s < n → h 6 s = Int32.ofNat (ar s) ∧ h 7 s = Int32.ofNat (sy s) ∧ ar s ≤ 23 ∧ 1 ≤ sy s ∧ sy s ≤ 12
def plw (h : am_M) (n B W : Nat) (wt : Nat → Nat → Nat → Int32) : Prop := ∀ s b x, s < n → b < B → x ≤ W → h (50 + s) (3 * b + x) = wt s b x
def pnd (h : am_M) (n : Nat) (nd : Nat → Int32) : Prop := ∀ s, s < n → h 46 s = nd s
def plFt (wt : Nat → Nat → Nat → Int32) (nd : Nat → Int32) (s b x : Nat) : Bool := decide (¬ wt s b x < nd s)
def plOv (ar sy : Nat → Nat) (o wo s x : Nat) : Bool := decide (ar o + wo < ar s + x + sy s ∧ ar s + x < ar o + wo + sy o)
/-- the class's own way to say it: in berth b, beside those of a set -/
def plCb (F : Nat → Nat → Nat → Bool) (ov : Nat → Nat → Nat → Nat → Bool) (rel : Nat → Bool) (b s x : Nat) (w : Nat → Nat) : Bool := F s b x && ! anyF (fun o => rel o && ov o (w o) s x) 0 s
/-- the hours that are taken -/
def tkH (ar sy : Nat → Nat) (rel : Nat → Bool) (w : Nat → Nat) (s i : Nat) : Bool := anyF (fun o => rel o && decide (ar o + w o ≤ i ∧ i < ar o + w o + sy o)) 0 s
theorem anyF_last (f : Nat → Bool) : ∀ m k, anyF f k (m + 1) = (anyF f k m || f (k + m))
  | 0, k => by simp [anyF]
  | m + 1, k => by
    have := anyF_last f m (k + 1)
    rw [anyF, this, anyF, Bool.or_assoc, show k + 1 + m = k + (m + 1) by omega]
theorem tk_free {ar sy : Nat → Nat} {rel : Nat → Bool} {w : Nat → Nat} {s x n : Nat} (hs : s < n) (hx : x ≤ 2) (hb : ∀ o, o < n → ar o ≤ 23 ∧ 1 ≤ sy o ∧ sy o ≤ 12) (hw : ∀ o, o < s → rel o = true → w o ≤ 2) : (∀ i, i < 64 → (decide (ar s + x ≤ i ∧ i < ar s + x + sy s) && tkH ar sy rel w s i) = false) ↔ (! anyF (fun o => rel o && plOv ar sy o (w o) s x) 0 s) = true := by
  rw [Bool.not_eq_true']
  constructor
  · intro h
    cases hc : anyF (fun o => rel o && plOv ar sy o (w o) s x) 0 s with
    | false => rfl
    | true =>
      exfalso
      obtain ⟨o, _, ho, hr⟩ := (anyF_iff s 0).1 hc
      simp only [Bool.and_eq_true, plOv, decide_eq_true_eq] at hr
      have bo := hb o (by omega)
      have bs := hb s hs
      have wo := hw o (by omega) hr.1
      have := h (max (ar o + w o) (ar s + x)) (by omega)
      have t : tkH ar sy rel w s (max (ar o + w o) (ar s + x)) = true := by
        unfold tkH
        rw [anyF_iff]
        refine ⟨o, by omega, ho, ?_⟩
        simp only [Bool.and_eq_true, decide_eq_true_eq]
        refine ⟨hr.1, ?_, ?_⟩ <;> omega
      rw [t, decide_eq_true (by omega)] at this
      cases this
  · intro h i hi
    by_cases c : ar s + x ≤ i ∧ i < ar s + x + sy s
    · rw [decide_eq_true c, Bool.true_and]
      cases hc : tkH ar sy rel w s i with
      | false => rfl
      | true =>
        exfalso
        obtain ⟨o, _, ho, hr⟩ := (anyF_iff s 0).1 hc
        simp only [Bool.and_eq_true, decide_eq_true_eq] at hr
        have : anyF (fun o => rel o && plOv ar sy o (w o) s x) 0 s = true := by
          rw [anyF_iff]
          refine ⟨o, by omega, ho, ?_⟩
          simp only [Bool.and_eq_true, plOv, decide_eq_true_eq]
          exact ⟨hr.1, by omega, by omega⟩
        rw [this] at h
        cases h
    · rw [decide_eq_false c, Bool.false_and]
def x48 (k _ : Nat) : Bool := Nat.beq k 48
theorem x48_w {s j : Nat} (hs : s < 5) : x48 (50 + s) j = false := by
  have e : s = 0 ∨ s = 1 ∨ s = 2 ∨ s = 3 ∨ s = 4 := by omega
  rcases e with e | e | e | e | e <;> subst e <;> rfl
/-- what fits answers, by the search from ship s on -/
def fitP (h0 h : am_M) (n : Nat) (rel : Nat → Bool) (s : Nat) (r : Option (Nat → Nat)) (v : Option Value) (h1 : am_M) : Prop := fr x48 h0 h1 ∧ (∀ o, (o < s ∨ n ≤ o ∨ rel o = false) → h1 48 o = h 48 o) ∧ match r with
  | none => v = some (.int 0)
  | some w' => v = some (.int 1) ∧ ∀ o, s ≤ o → o < n → rel o = true → h1 48 o = Int32.ofNat (w' o)
section
variable {h0 : am_M} {n B W b u : Nat} {rel : Nat → Bool} {ar sy : Nat → Nat} {wt : Nat → Nat → Nat → Int32} {nd : Nat → Int32}
theorem mx_92 (hp : plc h0 n B W ar sy) (hw : plw h0 n B W wt) (hn : pnd h0 n nd) (hb : b < B) (hu : u < 32) (hrel : ∀ o, rel o = u.testBit o) : ∀ (m s : Nat) (w : Nat → Nat) (t : Int64) (h : am_M), s + m = n → fr x48 h0 h → rpL t (tkH ar sy rel w s) → (∀ o, o < s → rel o = true → w o ≤ W) → mx (m + 1) 92 0 [some (.ref 45), some (.int (Int32.ofNat b)), some (.int (Int32.ofNat u)), some (.int (Int32.ofNat s)), some (.long t), none, none, none, none, none, none] [] h (fitP h0 h n rel s (plF rel (plCb (plFt wt nd) (plOv ar sy) rel b) W m s w)) := by
  obtain ⟨⟨hn5, hB5, hW2⟩, ⟨en, eB, eW⟩, hA⟩ := hp
  intro m
  induction m with
  | zero =>
    intro s w t h hs hf ht hwo
    refine .end (some (.int 1)) h ⟨hf, fun _ _ => rfl, rfl, fun o h1 h2 => by omega⟩ fun d L xs o g Q T hq => sm_92 ?_
    rw [hf 3 0 rfl, en]
    exact am_iff (by rw [nz_nlt (by omega) (by omega)]; omega) hq
  | succ m ih =>
    intro s w t h hs hf ht hwo
    have lt : Int32.ofNat s < Int32.ofNat n := by rw [nz_nlt (by omega) (by omega)]; omega
    have ba := bt_and ⟨u, hu⟩ ⟨s, by omega⟩
    simp only at ba
    rw [← hrel s] at ba
    cases hr : rel s with
    | false =>
      obtain ⟨v, h1, ⟨f1, f2, f3⟩, G⟩ := ih (s + 1) w t h (by omega) hf (fun i hi => by
        rw [ht i hi]
        unfold tkH
        rw [anyF_last, Nat.zero_add, hr, Bool.false_and, Bool.or_false]) (fun o ho hro => by
        by_cases e : o = s
        · subst e; rw [hr] at hro; cases hro
        · exact hwo o (by omega) hro)
      simp only [plF, hr, cond_false]
      have vb : ∃ z : Int32, v = some (.int z) ∧ am_bit z = true := by
        cases hc : plF rel (plCb (plFt wt nd) (plOv ar sy) rel b) W m (s + 1) w with
        | none => rw [hc] at f3; exact ⟨0, f3, rfl⟩
        | some w' => rw [hc] at f3; exact ⟨1, f3.1, rfl⟩
      obtain ⟨z, hz, zb⟩ := vb
      refine .end v h1 ⟨f1, fun o ho => f2 o (by rcases ho with ho | ho | ho <;> first | exact .inl (by omega) | exact .inr (.inl ho) | exact .inr (.inr ho)), ?_⟩ fun d L xs o g Q T hq => sm_92 ?_
      · cases hc : plF rel (plCb (plFt wt nd) (plOv ar sy) rel b) W m (s + 1) w with
        | none => rw [hc] at f3; exact f3
        | some w' =>
          rw [hc] at f3
          refine ⟨f3.1, fun o h1 h2 h3 => ?_⟩
          by_cases e : o = s
          · subst e; simp only [hr] at h3; cases h3
          · exact f3.2 o (by omega) h2 h3
      · rw [hf 3 0 rfl, en]
        refine am_ift lt (am_ift (ba.2 hr) ?_)
        rw [nz_succ]
        refine G d L xs o g _ _ ?_
        rw [hz] at hq ⊢
        exact sm_92_32l ⟨zb, hq⟩
    | true =>
      have bs := hA s (by omega)
      have lp : ∀ (r x : Nat) (q9 q10 : Option Value) (h' : am_M), x + r = W + 1 → fr x48 h0 h' → (∀ o, (o < s ∨ n ≤ o ∨ rel o = false) → h' 48 o = h 48 o) → mx (m + 2) 92 61 [some (.ref 45), some (.int (Int32.ofNat b)), some (.int (Int32.ofNat u)), some (.int (Int32.ofNat s)), some (.long t), none, some (.long (stL (sy s) (ar s))), none, some (.int (Int32.ofNat x)), q9, q10] [] h' (fitP h0 h n rel s (plX (fun x => bif plCb (plFt wt nd) (plOv ar sy) rel b s x w then plF rel (plCb (plFt wt nd) (plOv ar sy) rel b) W m (s + 1) (plU w s x) else none) x r)) := by
        intro r
        induction r with
        | zero =>
          intro x q9 q10 h' hx hf' hk
          refine .end (some (.int 0)) h' ⟨hf', hk, rfl⟩ fun d L xs o g Q T hq => sm_92_61u (by omega) (by omega) (by omega) (by rw [hf' 12 2 rfl, eW]; show ¬ Int32.ofNat 2 < Int32.ofNat W; rw [nz_nlt (by decide) (by omega)]; omega) ?_
          rw [hf' 12 2 rfl, eW]
          exact am_ift (by rw [nz_nlt (by omega) (by omega)]; omega) hq
        | succ r ihr =>
          intro x q9 q10 h' hx hf' hk
          have w2 : ¬ 2 < h' 12 2 := by rw [hf' 12 2 rfl, eW]; show ¬ Int32.ofNat 2 < Int32.ofNat W; rw [nz_nlt (by decide) (by omega)]; omega
          have wx : ¬ h' 12 2 < Int32.ofNat x := by rw [hf' 12 2 rfl, eW, nz_nlt (by omega) (by omega)]; omega
          have ew : h' (50 + s) (3 * b + x) = wt s b x := by rw [hf' _ _ (x48_w (by omega))]; exact hw s b x (by omega) hb (by omega)
          have e46 : h' 46 s = nd s := by rw [hf' 46 s rfl]; exact hn s (by omega)
          have hrp := hr_rp (y := sy s) (a := ar s) (x := x) (by omega) (by omega) (by omega)
          have an := rp_and hrp ht
          have tf := tk_free (ar := ar) (sy := sy) (rel := rel) (w := w) (s := s) (x := x) (n := n) (by omega) (by omega) (fun o ho => (hA o ho).2.2) (fun o ho hro => Nat.le_trans (hwo o ho hro) hW2)
          have skip : (plCb (plFt wt nd) (plOv ar sy) rel b s x w = false) → ∀ q9 q10, mx (m + 2) 92 61 [some (.ref 45), some (.int (Int32.ofNat b)), some (.int (Int32.ofNat u)), some (.int (Int32.ofNat s)), some (.long t), none, some (.long (stL (sy s) (ar s))), none, some (.int (Int32.ofNat (x + 1))), q9, q10] [] h' (fitP h0 h n rel s (plX (fun x => bif plCb (plFt wt nd) (plOv ar sy) rel b s x w then plF rel (plCb (plFt wt nd) (plOv ar sy) rel b) W m (s + 1) (plU w s x) else none) x (r + 1))) := fun ef q9 q10 => by
            simp only [plX, ef, cond_false]
            exact ihr (x + 1) q9 q10 h' (by omega) hf' hk
          by_cases c1 : wt s b x < nd s
          · refine (skip (by simp [plCb, plFt, c1]) (some (.long (stL (sy s) (ar s) <<< ((Int32.ofNat x).toInt64 &&& 63)))) none).go fun d L xs o g Q T hx' => sm_92_61u (by omega) (by omega) (by omega) w2 ?_
            rw [ew, e46]
            exact am_iff wx (am_ift c1 hx')
          by_cases c2 : lg_cmp ((stL (sy s) (ar s) <<< ((Int32.ofNat x).toInt64 &&& 63)) &&& t) (Int64.ofNat 0) = 0
          rotate_left
          · refine (skip ?_ (some (.long (stL (sy s) (ar s) <<< ((Int32.ofNat x).toInt64 &&& 63)))) none).go fun d L xs o g Q T hx' => sm_92_61u (by omega) (by omega) (by omega) w2 ?_
            · have : ¬ (! anyF (fun o => rel o && plOv ar sy o (w o) s x) 0 s) = true := fun hh => c2 (an.2 (tf.2 hh))
              unfold plCb
              rw [show (! anyF (fun o => rel o && plOv ar sy o (w o) s x) 0 s) = false by simpa using this, Bool.and_false]
            · rw [ew, e46]
              exact am_iff wx (am_iff c1 (am_iff c2 hx'))
          have et : plCb (plFt wt nd) (plOv ar sy) rel b s x w = true := by
            unfold plCb
            rw [tf.1 (an.1 c2), Bool.and_true]
            unfold plFt
            rw [decide_eq_true c1]
          obtain ⟨v, h2, ⟨f1, f2, f3⟩, G⟩ := ih (s + 1) (plU w s x) (t ||| (stL (sy s) (ar s) <<< ((Int32.ofNat x).toInt64 &&& 63))) (am_set h' 48 s (Int32.ofNat x)) (by omega) (hf'.set 48 s _ rfl) (fun i hi => by
            rw [rp_or ht hrp i hi]
            show (tkH ar sy rel w s i || decide (ar s + x ≤ i ∧ i < ar s + x + sy s)) = _
            unfold tkH
            rw [anyF_last, Nat.zero_add, plU_s, hr, Bool.true_and]
            congr 1
            apply anyF_congr
            intro o _ ho
            rw [plU_o _ _ (by omega)]) (fun o ho hro => by
            by_cases e : o = s
            · subst e; rw [plU_s]; omega
            · rw [plU_o _ _ e]; exact hwo o (by omega) hro)
          have kk : ∀ o, (o < s ∨ n ≤ o ∨ rel o = false) → h2 48 o = h 48 o := fun o ho => by
            have ne : ¬ o = s := fun e => by subst e; rcases ho with ho | ho | ho <;> first | omega | (rw [hr] at ho; cases ho)
            rw [f2 o (by rcases ho with ho | ho | ho <;> first | exact .inl (by omega) | exact .inr (.inl ho) | exact .inr (.inr ho)), as_slot _ _ _ ne]
            exact hk o ho
          cases hc : plF rel (plCb (plFt wt nd) (plOv ar sy) rel b) W m (s + 1) (plU w s x) with
          | none =>
            rw [hc] at f3
            subst f3
            have := ihr (x + 1) (some (.long (stL (sy s) (ar s) <<< ((Int32.ofNat x).toInt64 &&& 63)))) none h2 (by omega) f1 kk
            have e : plX (fun x => bif plCb (plFt wt nd) (plOv ar sy) rel b s x w then plF rel (plCb (plFt wt nd) (plOv ar sy) rel b) W m (s + 1) (plU w s x) else none) x (r + 1) = plX (fun x => bif plCb (plFt wt nd) (plOv ar sy) rel b s x w then plF rel (plCb (plFt wt nd) (plOv ar sy) rel b) W m (s + 1) (plU w s x) else none) (x + 1) r := by
              simp only [plX, et, cond_true, hc]
            rw [e]
            refine this.go fun d L xs o g Q T hx' => sm_92_61u (by omega) (by omega) (by omega) w2 ?_
            rw [ew, e46]
            refine am_iff wx (am_iff c1 (am_ift c2 (G d L xs o g _ _ (sm_92_136l (am_ift rfl ?_)))))
            rw [nz_succ]
            exact hx'
          | some w' =>
            rw [hc] at f3
            have e : plX (fun x => bif plCb (plFt wt nd) (plOv ar sy) rel b s x w then plF rel (plCb (plFt wt nd) (plOv ar sy) rel b) W m (s + 1) (plU w s x) else none) x (r + 1) = some w' := by
              simp only [plX, et, cond_true, hc]
            rw [e]
            obtain ⟨rfl, f4⟩ := f3
            refine .end (some (.int 1)) h2 ⟨f1, kk, rfl, fun o h1 h3 h4 => ?_⟩ fun d L xs o g Q T hq => sm_92_61u (by omega) (by omega) (by omega) w2 ?_
            · by_cases e2 : o = s
              · subst e2
                rw [f2 o (.inl (by omega)), as_self]
                have hC : plHC rel (plCb (plFt wt nd) (plOv ar sy) rel b) := fun s' x' v v' _ hv => by
                  unfold plCb
                  congr 2
                  apply anyF_congr
                  intro q _ hq
                  cases hu' : rel q with
                  | false => rw [Bool.false_and, Bool.false_and]
                  | true => rw [hv q (by omega) hu']
                have := ((plF_spec (n := n) (W := W) hC m (o + 1) (plU w o x) (by omega)).2 w' hc).1 o (by omega)
                rw [this, plU_s]
              · exact f4 o (by omega) h3 h4
            · rw [ew, e46]
              exact am_iff wx (am_iff c1 (am_ift c2 (G d L xs o g _ _ (sm_92_136l (am_iff (by decide) hq)))))
      simp only [plF, hr, cond_true]
      refine (lp (W + 1) 0 none none h (by omega) hf (fun _ _ => rfl)).go fun d L xs o g Q T hx => sm_92 ?_
      rw [hf 3 0 rfl, en]
      refine am_ift lt (am_iff (fun e => by rw [ba.1 e] at hr; cases hr) ⟨ix_n (by omega) (by decide), ?_⟩)
      rw [nz_c s (by omega), hf 7 s rfl, hf 6 s rfl, bs.1, bs.2.1]
      exact hx
end
