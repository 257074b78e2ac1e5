/-! ===== names: both sides ===== -/
theorem set_up (h : am_M) (k j : Nat) (f : Nat → Int32) (x : Int32) : am_set (va_up h k f) k j x = va_up h k (upd f j x) := by
  funext a b
  rw [as_get]
  unfold va_up upd
  by_cases e : a = k
  · subst e
    by_cases e2 : b = j
    · simp [e2]
    · simp [e2]
  · simp [e]
theorem up_self (h : am_M) (k : Nat) : va_up h k (h k) = h := by
  funext a b
  unfold va_up
  split
  · rename_i e; rw [e]
  · rfl
/-- the model's heap while names are gone through -/
def hmN (h : am_M) (r b : Int32) (sh : Nat → Int32) : am_M := am_set (am_set (va_up h 97 sh) 64 49 r) 64 50 b
theorem hmN_r (h : am_M) (r b x : Int32) (sh : Nat → Int32) : am_set (hmN h r b sh) 64 49 x = hmN h x b sh := by
  unfold hmN
  rw [as_swap _ _ _ (by decide), as_twice]
theorem hmN_b (h : am_M) (r b x : Int32) (sh : Nat → Int32) : am_set (hmN h r b sh) 64 50 x = hmN h r x sh := by
  unfold hmN
  rw [as_twice]
theorem hmN_s (h : am_M) (r b x : Int32) (sh : Nat → Int32) (j : Nat) : am_set (hmN h r b sh) 97 j x = hmN h r b (upd sh j x) := by
  unfold hmN
  rw [as_swap _ _ _ (by simp), as_swap (va_up h 97 sh) _ _ (by simp), set_up]
section
variable {h : am_M}
theorem mx_201 {n w : Nat} {wv : Int32} (hn : n ≤ 5) (en : h 68 0 = Int32.ofNat n) (hw : wv = -1 ∨ (wv = Int32.ofNat w ∧ w < n)) {A : Nat → Nat → Bool} (hA : ∀ i s, i < n → s < n → A i s = (decide (¬ h 96 s < h 79 i) && decide (¬ h 80 i < h 95 s))) : ∀ (m one u c : Nat) (r b : Int32) (sh : Nat → Int32), one + m = n → u < 32 → (w < one → sh w = Int32.ofNat c ∧ c < 5) → mx m 201 0 [some (.ref 64), some (.int (Int32.ofNat one)), some (.int (Int32.ofNat u)), some (.int wv), none] [] (hmN h r b sh) (fun v h1 => v = none ∧ ∃ (sh' : Nat → Int32) (b' : Int32), (∀ j, j < one → sh' j = sh j) ∧ (¬ wv = -1 → b' = b ||| bN A n w m one u c) ∧ h1 = hmN h (r + Int32.ofNat (cntN A n m one u)) b' sh') := by
  intro m
  induction m with
  | zero =>
    intro one u c r b sh h1 hu hc
    have e : one = n := by omega
    subst e
    rcases hw with hw | ⟨hw, hw2⟩
    · refine .end none (hmN h (r + 1) b sh) ⟨rfl, sh, b, fun _ _ => rfl, fun h => absurd hw h, rfl⟩ fun d L xs o g Q T hq => sm_201 ?_
      rw [show (hmN h r b sh) 68 0 = Int32.ofNat one from en]
      refine am_ift rfl (am_ift hw ?_)
      rw [show (hmN h r b sh) 64 49 = r from rfl, hmN_r]
      exact hq
    · have ne : ¬ wv = -1 := by
        rw [hw]
        have : ¬ Int32.ofNat w < 0 := by rw [nz_lt, nz_n w (by omega)]; have : (0 : Int32).toInt = 0 := rfl; omega
        grind
      refine .end none (hmN h (r + 1) (b ||| bt c) sh) ⟨rfl, sh, b ||| bt c, fun _ _ => rfl, fun _ => rfl, rfl⟩ fun d L xs o g Q T hq => sm_201 ?_
      rw [show (hmN h r b sh) 68 0 = Int32.ofNat one from en]
      refine am_ift rfl (am_iff ne ⟨hw ▸ ix_n (by omega) (by decide), ?_⟩)
      rw [show (hmN h r b sh) 64 49 = r from rfl, hmN_r, hmN_b, show (hmN h r b sh) 64 50 = b from rfl, hw, nz_c w (by omega), show (hmN h r b sh) 97 w = sh w from rfl, (hc hw2).1]
      exact hq
  | succ m ih =>
    intro one u c r b sh h1 hu hc
    have i5 : am_ix (Int32.ofNat one) 5 := ix_n (by omega) (by decide)
    have ne : ¬ Int32.ofNat one = Int32.ofNat n := by rw [nz_inj (by omega) (by omega)]; omega
    have lp : ∀ (q k : Nat) (r b : Int32) (sh : Nat → Int32), k + q = n → (w < one → sh w = Int32.ofNat c ∧ c < 5) → mx (m + 1) 201 46 [some (.ref 64), some (.int (Int32.ofNat one)), some (.int (Int32.ofNat u)), some (.int wv), some (.int (Int32.ofNat k))] [] (hmN h r b sh) (fun v h1 => v = none ∧ ∃ (sh' : Nat → Int32) (b' : Int32), (∀ j, j < one → sh' j = sh j) ∧ (¬ wv = -1 → b' = b ||| orF (fun s => bif (A one s && ! u.testBit s) then bN A n w m (one + 1) (u ||| 2 ^ s) (if one = w then s else c) else 0) k q) ∧ h1 = hmN h (r + Int32.ofNat (smN (fun s => bif (A one s && ! u.testBit s) then cntN A n m (one + 1) (u ||| 2 ^ s) else 0) k q)) b' sh') := by
      intro q
      induction q with
      | zero =>
        intro k r b sh hk hc
        refine .end none (hmN h r b sh) ⟨rfl, sh, b, fun _ _ => rfl, fun _ => by simp [orF], by simp [smN]⟩ fun d L xs o g Q T hq => sm_201_46 ?_
        rw [show (hmN h r b sh) 68 0 = Int32.ofNat n from en]
        exact am_iff (by rw [nz_nlt (by omega) (by omega)]; omega) hq
      | succ q ihq =>
        intro k r b sh hk hc
        have b1 := bt_shr ⟨u, hu⟩ ⟨k, by omega⟩
        have b3 := bt_or ⟨u, hu⟩ ⟨k, by omega⟩
        have k5 : am_ix (Int32.ofNat k) 5 := ix_n (by omega) (by decide)
        have lt : Int32.ofNat k < Int32.ofNat n := by rw [nz_nlt (by omega) (by omega)]; omega
        have ea := hA one k (by omega) (by omega)
        have skip : (A one k && ! u.testBit k) = false → mx (m + 1) 201 46 [some (.ref 64), some (.int (Int32.ofNat one)), some (.int (Int32.ofNat u)), some (.int wv), some (.int (Int32.ofNat k + 1))] [] (hmN h r b sh) (fun v h1 => v = none ∧ ∃ (sh' : Nat → Int32) (b' : Int32), (∀ j, j < one → sh' j = sh j) ∧ (¬ wv = -1 → b' = b ||| orF (fun s => bif (A one s && ! u.testBit s) then bN A n w m (one + 1) (u ||| 2 ^ s) (if one = w then s else c) else 0) k (q + 1)) ∧ h1 = hmN h (r + Int32.ofNat (smN (fun s => bif (A one s && ! u.testBit s) then cntN A n m (one + 1) (u ||| 2 ^ s) else 0) k (q + 1))) b' sh') := fun ef => by
          simp only [orF, smN]
          rw [ef, cond_false, cond_false, Nat.zero_add, Int32.zero_or, nz_succ]
          exact ihq (k + 1) r b sh (by omega) hc
        by_cases c1 : u.testBit k = true
        · refine (skip (by simp [c1])).go fun d L xs o g Q T hx => sm_201_46 ?_
          rw [show (hmN h r b sh) 68 0 = Int32.ofNat n from en]
          exact am_ift lt (am_ift (b1.2 c1) hx)
        have c1' : ¬ (Int32.ofNat u >>> (Int32.ofNat k &&& 31)) &&& 1 = 1 := fun e => c1 (b1.1 e)
        by_cases c2 : h 96 k < h 79 one
        · refine (skip (by simp [ea, c2])).go fun d L xs o g Q T hx => sm_201_46 ?_
          rw [show (hmN h r b sh) 68 0 = Int32.ofNat n from en]
          refine am_ift lt (am_iff c1' ⟨i5, k5, ?_⟩)
          rw [nz_c k (by omega), nz_c one (by omega)]
          exact am_ift c2 hx
        by_cases c3 : h 80 one < h 95 k
        · refine (skip (by simp [ea, c3])).go fun d L xs o g Q T hx => sm_201_46 ?_
          rw [show (hmN h r b sh) 68 0 = Int32.ofNat n from en]
          refine am_ift lt (am_iff c1' ⟨i5, k5, ?_⟩)
          rw [nz_c k (by omega), nz_c one (by omega)]
          exact am_iff c2 (am_ift c3 hx)
        have et : (A one k && ! u.testBit k) = true := by simp [ea, c1, c2, c3]
        obtain ⟨v, h2, ⟨rfl, sh1, b1', hs1, hb1, rfl⟩, G⟩ := ih (one + 1) (u ||| 2 ^ k) (if one = w then k else c) r b (upd sh one (Int32.ofNat k)) (by omega) b3.2 (fun hlt => by
          by_cases e : one = w
          · subst e
            rw [if_pos rfl]
            exact ⟨by simp [upd], by omega⟩
          · rw [if_neg e]
            have := hc (by omega)
            exact ⟨by simp only [upd]; rw [if_neg (by omega)]; exact this.1, this.2⟩)
        have J := ihq (k + 1) (r + Int32.ofNat (cntN A n m (one + 1) (u ||| 2 ^ k))) b1' sh1 (by omega) (fun hlt => by
          have := hs1 w (by omega)
          rw [this]
          simp only [upd]
          rw [if_neg (by omega)]
          exact hc hlt)
        refine (J.mono (P' := fun v h1 => v = none ∧ ∃ (sh' : Nat → Int32) (b' : Int32), (∀ j, j < one → sh' j = sh j) ∧ (¬ wv = -1 → b' = b ||| orF (fun s => bif (A one s && ! u.testBit s) then bN A n w m (one + 1) (u ||| 2 ^ s) (if one = w then s else c) else 0) k (q + 1)) ∧ h1 = hmN h (r + Int32.ofNat (smN (fun s => bif (A one s && ! u.testBit s) then cntN A n m (one + 1) (u ||| 2 ^ s) else 0) k (q + 1))) b' sh') ?_).go fun d L xs o g Q T hx => sm_201_46 ?_
        · rintro v h3 ⟨rfl, sh2, b2, hs2, hb2, rfl⟩
          refine ⟨rfl, sh2, b2, fun j hj => ?_, fun hv => ?_, ?_⟩
          · rw [hs2 j hj, hs1 j (by omega)]
            simp only [upd]
            rw [if_neg (by omega)]
          · rw [hb2 hv, hb1 hv]
            simp only [orF]
            rw [et, cond_true, Int32.or_assoc]
          · simp only [smN]
            rw [et, cond_true, Int32.add_assoc, ← Int32.ofNat_add]
        · rw [show (hmN h r b sh) 68 0 = Int32.ofNat n from en]
          refine am_ift lt (am_iff c1' ⟨i5, k5, ?_⟩)
          rw [nz_c k (by omega), nz_c one (by omega), hmN_s, nz_succ one, show (Int32.ofNat u ||| 1 <<< (Int32.ofNat k &&& 31)) = Int32.ofNat (u ||| 2 ^ k) from b3.1]
          refine am_iff c2 (am_iff c3 (G d L xs o g _ _ (sm_201_124 ?_)))
          rw [nz_succ]
          exact hx
    refine (lp n 0 r b sh (by omega) hc).go fun d L xs o g Q T hx => sm_201 ?_
    rw [show (hmN h r b sh) 68 0 = Int32.ofNat n from en]
    exact am_iff ne hx
/-- the true spans, told one by one -/
def hmT (h : am_M) (q : Int32 × Int32) (a b : Nat → Int32) : am_M := va_up (va_up (wrp h 64 35 36 q) 95 a) 96 b
theorem lp_200 (hI : Iv h) {N n : Nat} {wv : Int32} {P : Option Value → am_M → Prop} (hN : N ≤ 80) (e1 : h 23 0 = Int32.ofNat N) (hn : n ≤ 5) (en : h 3 0 = Int32.ofNat n) : ∀ (m k : Nat) (q : Int32 × Int32) (a b : Nat → Int32), k + m = n → (∀ j, j < k → a j = (spT h (Int32.ofNat j) N).1 ∧ b j = (spT h (Int32.ofNat j) N).2) → (∀ q a b, (∀ j, j < n → a j = (spT h (Int32.ofNat j) N).1 ∧ b j = (spT h (Int32.ofNat j) N).2) → mx 7 200 26 [some (.ref 64), some (.int wv), some (.int (Int32.ofNat n))] [] (hmT h q a b) P) → mx 7 200 26 [some (.ref 64), some (.int wv), some (.int (Int32.ofNat k))] [] (hmT h q a b) P := by
  have en2 : h 68 0 = Int32.ofNat n := by rw [hI.2.1.1.1]; exact en
  intro m
  induction m with
  | zero =>
    intro k q a b hk ha H
    have : k = n := by omega
    subst this
    exact H q a b ha
  | succ m ih =>
    intro k q a b hk ha H
    have lt : Int32.ofNat k < Int32.ofNat n := by rw [nz_nlt (by omega) (by omega)]; omega
    have k0 : ¬ Int32.ofNat k < 0 := by rw [nz_lt, nz_n k (by omega)]; have : (0 : Int32).toInt = 0 := rfl; omega
    have W := mv_153w (h := va_up (va_up h 95 a) 96 b) hI (s := Int32.ofNat k) q hN e1 k0 (by show Int32.ofNat k < h 3 0; rw [en]; exact lt)
    have cm : ∀ q, wrp (va_up (va_up h 95 a) 96 b) 64 35 36 q = hmT h q a b := fun q => by
      funext i j
      unfold hmT wrp
      simp only [as_get, va_up]
      by_cases z1 : i = 96
      · subst z1; simp
      · by_cases z2 : i = 95
        · subst z2; simp
        · simp [z1, z2, as_get]
    rw [cm, cm] at W
    have st : spT (va_up (va_up h 95 a) 96 b) (Int32.ofNat k) N = spT h (Int32.ofNat k) N := rfl
    rw [st] at W
    have I := ih (k + 1) (spT h (Int32.ofNat k) N) (upd a k (spT h (Int32.ofNat k) N).1) (upd b k (spT h (Int32.ofNat k) N).2) (by omega) (fun j hj => by
      by_cases e : j = k
      · subst e; simp [upd]
      · simp only [upd, if_neg e]; exact ha j (by omega)) H
    refine I.go fun d L xs o g Q T hx => sm_200_26 ?_
    rw [show (hmT h q a b) 68 0 = Int32.ofNat n from en2]
    refine am_ift lt (W.use (sm_200_41 ⟨ix_n (by omega) (by decide), ?_⟩))
    rw [nz_c k (by omega), nz_succ]
    have e : am_set (am_set (hmT h (spT h (Int32.ofNat k) N) a b) 95 k ((hmT h (spT h (Int32.ofNat k) N) a b) 64 35)) 96 k ((hmT h (spT h (Int32.ofNat k) N) a b) 64 36) = hmT h (spT h (Int32.ofNat k) N) (upd a k (spT h (Int32.ofNat k) N).1) (upd b k (spT h (Int32.ofNat k) N).2) := by
      rw [show (hmT h (spT h (Int32.ofNat k) N) a b) 64 35 = (spT h (Int32.ofNat k) N).1 from rfl, show (hmT h (spT h (Int32.ofNat k) N) a b) 64 36 = (spT h (Int32.ofNat k) N).2 from rfl]
      unfold hmT
      rw [show am_set (va_up (va_up (wrp h 64 35 36 (spT h (Int32.ofNat k) N)) 95 a) 96 b) 95 k (spT h (Int32.ofNat k) N).1 = va_up (am_set (va_up (wrp h 64 35 36 (spT h (Int32.ofNat k) N)) 95 a) 95 k (spT h (Int32.ofNat k) N).1) 96 b from ?_, set_up, set_up]
      funext i j
      simp only [as_get, va_up]
      by_cases z1 : i = 96
      · subst z1; simp
      · simp [z1, as_get, va_up]
    rw [e]
    exact hx
/-- the class's heap while names are gone through -/
def hcN (h : am_M) (a : Nat → Int32) (q : Int32 × Int32) : am_M := wrp (va_up (am_set h 59 0 (h 3 0)) 60 a) 61 0 1 q
theorem hcN_s (h : am_M) (a : Nat → Int32) (q : Int32 × Int32) (j : Nat) (x : Int32) : am_set (hcN h a q) 60 j x = hcN h (upd a j x) q := by
  unfold hcN wrp
  rw [as_swap _ _ _ (by simp), as_swap (va_up (am_set h 59 0 (h 3 0)) 60 a) _ _ (by simp), set_up]
/-- ship s and name i have some keel in common -/
def meN (h : am_M) (N i s : Nat) : Bool := decide (¬ (if h 32 i < (spT h (Int32.ofNat s) N).2 then h 32 i else (spT h (Int32.ofNat s) N).2) < (if (spT h (Int32.ofNat s) N).1 < h 31 i then h 31 i else (spT h (Int32.ofNat s) N).1))
def alN (f : Nat → Bool) : Nat → Nat → Nat → Nat
  | _, 0, u => u
  | k, m + 1, u => alN f (k + 1) m (if f k = true then u ||| 2 ^ k else u)
theorem alN_t {f : Nat → Bool} {n : Nat} (hn : n ≤ 5) : ∀ m k u, k + m = n → u < 32 → alN f k m u < 32 ∧ ∀ t, t < 5 → (alN f k m u).testBit t = (u.testBit t || (decide (k ≤ t ∧ t < n) && f t))
  | 0, k, u, hk, hu => by
    refine ⟨hu, fun t _ => ?_⟩
    simp only [alN]
    rw [decide_eq_false (by omega)]
    simp
  | m + 1, k, u, hk, hu => by
    simp only [alN]
    have b1 := bt_or ⟨u, hu⟩ ⟨k, by omega⟩
    by_cases e : f k = true
    · rw [if_pos e]
      obtain ⟨a, b⟩ := alN_t (f := f) hn m (k + 1) (u ||| 2 ^ k) (by omega) b1.2
      refine ⟨a, fun t ht => ?_⟩
      rw [b t ht, bt_set ⟨u, hu⟩ ⟨k, by omega⟩ ⟨t, ht⟩]
      by_cases z : t = k
      · subst z
        rw [decide_eq_true (show t ≤ t ∧ t < n by omega)]
        simp [e]
      · have : decide (k + 1 ≤ t ∧ t < n) = decide (k ≤ t ∧ t < n) := by
          rw [Bool.eq_iff_iff, decide_eq_true_eq, decide_eq_true_eq]; omega
        rw [this]
        simp [z]
    · rw [if_neg e]
      obtain ⟨a, b⟩ := alN_t (f := f) hn m (k + 1) u (by omega) hu
      refine ⟨a, fun t ht => ?_⟩
      rw [b t ht]
      by_cases z : t = k
      · subst z
        simp [e]
      · have : decide (k + 1 ≤ t ∧ t < n) = decide (k ≤ t ∧ t < n) := by
          rw [Bool.eq_iff_iff, decide_eq_true_eq, decide_eq_true_eq]; omega
        rw [this]
theorem lp_122i {N n one : Nat} {wv : Int32} {P : Option Value → am_M → Prop} (hN : N ≤ 80) (e1 : h 23 0 = Int32.ofNat N) (hn : n ≤ 5) (en : h 3 0 = Int32.ofNat n) (ho : one < n) : ∀ (m k u : Nat) (a : Nat → Int32) (q : Int32 × Int32), k + m = n → u < 32 → a one = Int32.ofNat u → (∀ a' q', a' one = Int32.ofNat (alN (meN h N one) k m u) → (∀ j, ¬ j = one → a' j = a j) → mx 8 122 26 [some (.ref 0), some (.int wv), some (.int (Int32.ofNat (one + 1))), some (.int (Int32.ofNat n))] [] (hcN h a' q') P) → mx 8 122 39 [some (.ref 0), some (.int wv), some (.int (Int32.ofNat one)), some (.int (Int32.ofNat k))] [] (hcN h a q) P := by
  intro m
  induction m with
  | zero =>
    intro k u a q hk hu ha H
    have : k = n := by omega
    subst this
    refine (H a q ha (fun _ _ => rfl)).go fun d L xs o g Q T hx => sm_122_39 ?_
    rw [show (hcN h a q) 3 0 = Int32.ofNat k from en, nz_succ]
    exact am_iff (by rw [nz_nlt (by omega) (by omega)]; omega) hx
  | succ m ih =>
    intro k u a q hk hu ha H
    have lt : Int32.ofNat k < Int32.ofNat n := by rw [nz_nlt (by omega) (by omega)]; omega
    have i5 : am_ix (Int32.ofNat one) 5 := ix_n (by omega) (by decide)
    have C := mv_46w (h := va_up (am_set h 59 0 (h 3 0)) 60 a) (s := Int32.ofNat k) q hN e1 (ix_n (by omega) (by decide))
    have C' : mv 3 46 [some (.ref 0), some (.int (Int32.ofNat k))] (hcN h a q) (some (.ref 61)) (hcN h a (spT h (Int32.ofNat k) N)) := C
    by_cases me : (if h 32 one < (spT h (Int32.ofNat k) N).2 then h 32 one else (spT h (Int32.ofNat k) N).2) < (if (spT h (Int32.ofNat k) N).1 < h 31 one then h 31 one else (spT h (Int32.ofNat k) N).1)
    · have em : meN h N one k = false := by unfold meN; rw [decide_eq_false]; exact fun h => h me
      refine (ih (k + 1) u a (spT h (Int32.ofNat k) N) (by omega) hu ha (fun a' q' h1 h2 => H a' q' (by simp only [alN, em]; exact h1) h2)).go fun d L xs o g Q T hx => sm_122_39 ?_
      rw [show (hcN h a q) 3 0 = Int32.ofNat n from en]
      refine am_ift lt (C'.use (sm_122_55 ⟨i5, ?_⟩))
      rw [nz_c one (by omega), nz_succ]
      exact am_ift me hx
    · have em : meN h N one k = true := by unfold meN; rw [decide_eq_true]; exact me
      have b3 := bt_or ⟨u, hu⟩ ⟨k, by omega⟩
      refine (ih (k + 1) (u ||| 2 ^ k) (upd a one (Int32.ofNat (u ||| 2 ^ k))) (spT h (Int32.ofNat k) N) (by omega) b3.2 (by simp [upd]) (fun a' q' h1 h2 => H a' q' (by simp only [alN, em]; exact h1) (fun j hj => by rw [h2 j hj]; simp [upd, hj]))).go fun d L xs o g Q T hx => sm_122_39 ?_
      rw [show (hcN h a q) 3 0 = Int32.ofNat n from en]
      refine am_ift lt (C'.use (sm_122_55 ⟨i5, ?_⟩))
      rw [nz_c one (by omega), nz_succ, hcN_s, show (hcN h a (spT h (Int32.ofNat k) N)) 60 one = Int32.ofNat u from ha, show (Int32.ofNat u ||| 1 <<< (Int32.ofNat k &&& 31)) = Int32.ofNat (u ||| 2 ^ k) from b3.1]
      exact am_iff me hx
theorem lp_122 {N n : Nat} {wv : Int32} {P : Option Value → am_M → Prop} (hN : N ≤ 80) (e1 : h 23 0 = Int32.ofNat N) (hn : n ≤ 5) (en : h 3 0 = Int32.ofNat n) : ∀ (m k : Nat) (a : Nat → Int32) (q : Int32 × Int32) (q3 : Option Value), am_nl q3 = true → k + m = n → (∀ j, j < k → a j = Int32.ofNat (alN (meN h N j) 0 n 0)) → (∀ j, k ≤ j → j < 5 → a j = 0) → (∀ a' q' q3, am_nl q3 = true → (∀ j, j < n → a' j = Int32.ofNat (alN (meN h N j) 0 n 0)) → mx 8 122 26 [some (.ref 0), some (.int wv), some (.int (Int32.ofNat n)), q3] [] (hcN h a' q') P) → mx 8 122 26 [some (.ref 0), some (.int wv), some (.int (Int32.ofNat k)), q3] [] (hcN h a q) P := by
  intro m
  induction m with
  | zero =>
    intro k a q q3 h3 hk ha hz H
    have : k = n := by omega
    subst this
    exact H a q q3 h3 ha
  | succ m ih =>
    intro k a q q3 h3 hk ha hz H
    have lt : Int32.ofNat k < Int32.ofNat n := by rw [nz_nlt (by omega) (by omega)]; omega
    refine (lp_122i (h := h) (one := k) (wv := wv) hN e1 hn en (by omega) n 0 0 a q (by omega) (by decide) (hz k (by omega) (by omega)) (fun a' q' h1 h2 => ih (k + 1) a' q' _ rfl (by omega) (fun j hj => by
      by_cases e : j = k
      · subst e; exact h1
      · rw [h2 j e]; exact ha j (by omega)) (fun j hj hj5 => by rw [h2 j (by omega)]; exact hz j (by omega) hj5) H)).go fun d L xs o g Q T hx => sm_122_26 h3 ?_
    rw [show (hcN h a q) 3 0 = Int32.ofNat n from en]
    exact am_ift lt hx
end
theorem me_eq {t1 t2 a b : Int32} (h1 : ¬ t2 < t1) (h2 : ¬ b < a) : decide (¬ (if b < t2 then b else t2) < (if t1 < a then a else t1)) = (decide (¬ t2 < a) && decide (¬ b < t1)) := by
  rw [Bool.eq_iff_iff, Bool.and_eq_true, decide_eq_true_eq, decide_eq_true_eq, decide_eq_true_eq]
  split <;> split <;> grind
theorem op_namesM {h : am_M} (hI : Iv h) {N n w : Nat} {wv : Int32} (hN : N ≤ 80) (e1 : h 23 0 = Int32.ofNat N) (hn : n ≤ 5) (en : h 3 0 = Int32.ofNat n) (hw : wv = -1 ∨ (wv = Int32.ofNat w ∧ w < n)) : ∃ (v : Int32) (h1 h2 : am_M), (∀ (d L : Nat) (xs : Nat → Int32) (o : am_L) (g : Nat) (Q : Option Value → am_M → am_L → Nat → Prop) (T : Nat → am_M → am_L → Nat → Prop), Q (some (.int v)) h1 o g → am_X L xs (d + 8) 122 26 [some (.ref 0), some (.int wv), some (.int 0), none] [] am_C0 (am_set (am_set (am_set (am_set (am_set (am_set h 59 0 (h 3 0)) 60 0 0) 60 1 0) 60 2 0) 60 3 0) 60 4 0) o g Q T) ∧ (∀ (d L : Nat) (xs : Nat → Int32) (o : am_L) (g : Nat) (Q : Option Value → am_M → am_L → Nat → Prop) (T : Nat → am_M → am_L → Nat → Prop), Q (some (.int v)) h2 o g → am_X L xs (d + 7) 200 26 [some (.ref 64), some (.int wv), some (.int 0)] [] am_C0 (am_set h1 64 3 0) o g Q T) ∧ h1 68 0 = h 68 0 ∧ Iv h2 ∧ h2 64 3 = 0 := by
  have hne : ∀ k : Nat, k ≤ 5 → ¬ Int32.ofNat k = -1 := fun k hk => by
    have : ¬ Int32.ofNat k < 0 := by rw [nz_lt, nz_n k (by omega)]; have : (0 : Int32).toInt = 0 := rfl; omega
    grind
  have nlt : ¬ Int32.ofNat n < Int32.ofNat n := by rw [nz_nlt (by omega) (by omega)]; omega
  have al32 : ∀ j, alN (meN h N j) 0 n 0 < 32 := fun j => (alN_t (f := meN h N j) hn n 0 0 (by omega) (by decide)).1
  have alt : ∀ i s, s < n → (alN (meN h N i) 0 n 0).testBit s = meN h N i s := fun i s hs => by
    rw [(alN_t (f := meN h N i) hn n 0 0 (by omega) (by decide)).2 s (by omega), decide_eq_true (show 0 ≤ s ∧ s < n by omega)]
    simp
  obtain ⟨A, hA⟩ : ∃ A : Nat → Nat → Bool, A = fun i s => (alN (meN h N i) 0 n 0).testBit s := ⟨_, rfl⟩
  obtain ⟨v, hv⟩ : ∃ v : Int32, v = if wv = -1 then Int32.ofNat (cntN A n n 0 0) else orF (fun t => bif decide (0 < cntN (tie A w t) n n 0 0) then bt t else 0) 0 n := ⟨_, rfl⟩
  obtain ⟨w1, h1, ⟨rfl, a1, q1, rfl⟩, GC⟩ := lp_122 (h := h) (wv := wv) (P := fun w' h1 => w' = some (.int v) ∧ ∃ a q, h1 = hcN h a q) hN e1 hn en n 0 (upd (upd (upd (upd (upd (h 60) 0 0) 1 0) 2 0) 3 0) 4 0) (h 61 0, h 61 1) none rfl (by omega) (fun j hj => by omega) (fun j _ hj => by
    have : j = 0 ∨ j = 1 ∨ j = 2 ∨ j = 3 ∨ j = 4 := by omega
    rcases this with e | e | e | e | e <;> subst e <;> rfl) (fun a' q' q3 h3 ha => by
    have ha' : ∀ j, j < n → (hcN h a' q') 60 j = Int32.ofNat (alN (meN h N j) 0 n 0) ∧ alN (meN h N j) 0 n 0 < 32 := fun j hj => ⟨ha j hj, al32 j⟩
    have C1 := mv_127' (h := hcN h a' q') (al := fun j => alN (meN h N j) 0 n 0) hn en ha'
    refine .end (some (.int v)) (hcN h a' q') ⟨rfl, a', q', rfl⟩ fun d L xs o g Q T hq => sm_122_26 h3 ?_
    rw [show (hcN h a' q') 3 0 = Int32.ofNat n from en]
    refine am_iff nlt ?_
    rcases hw with hw | ⟨hw, hw2⟩
    · rw [if_pos hw] at hv
      refine am_ift hw (sm_126 (C1.use (sm_126_6 rfl (sm_122_112 rfl rfl rfl h3 ?_))))
      rw [hv, hA] at hq
      exact hq
    · rw [if_neg (hw ▸ hne w (by omega))] at hv
      have C2 := mx_128 (h := hcN h a' q') (al := fun j => alN (meN h N j) 0 n 0) hn hw2 en ha'
      refine am_iff (hw ▸ hne w (by omega)) ?_
      rw [hw]
      refine C2.use (sm_122_123 rfl rfl rfl h3 ?_)
      rw [hv, hA] at hq
      exact hq)
  have hm : Iv (am_set (hcN h a1 q1) 64 3 0) := hI
  obtain ⟨w2, h2, ⟨rfl, qq, aa, bb, r, b', sh, rfl⟩, GM⟩ := lp_200 (h := am_set (hcN h a1 q1) 64 3 0) hm (wv := wv) (P := fun w' h2 => w' = some (.int v) ∧ ∃ qq aa bb r b' sh, h2 = hmN (hmT (am_set (hcN h a1 q1) 64 3 0) qq aa bb) r b' sh) hN e1 hn en n 0 ((am_set (hcN h a1 q1) 64 3 0) 64 35, (am_set (hcN h a1 q1) 64 3 0) 64 36) ((am_set (hcN h a1 q1) 64 3 0) 95) ((am_set (hcN h a1 q1) 64 3 0) 96) (by omega) (fun j hj => by omega) (fun q a b hab => by
    have hAm : ∀ i s, i < n → s < n → A i s = (decide (¬ (hmT (am_set (hcN h a1 q1) 64 3 0) q a b) 96 s < (hmT (am_set (hcN h a1 q1) 64 3 0) q a b) 79 i) && decide (¬ (hmT (am_set (hcN h a1 q1) 64 3 0) q a b) 80 i < (hmT (am_set (hcN h a1 q1) 64 3 0) q a b) 95 s)) := fun i s hi hs => by
      obtain ⟨x1, x2⟩ := hab s hs
      obtain ⟨hT, hP, ⟨N', hN', e1', e2, hE, hG, hJ, hS⟩, _⟩ := hI
      have eN : N' = N := by rw [e1'] at e1; exact (nz_inj (by omega) (by omega)).1 e1
      subst eN
      have g := hG i (by omega)
      have s' := hS s (by omega) (by rw [en, nz_nlt (by omega) (by omega)]; omega)
      have st : spT h (Int32.ofNat s) N' = spL (h 25) (h 26) (h 27) (h 28) (Int32.ofNat s) (h 4 s) (h 5 s) N' := by
        unfold spT
        rw [sp_tr hP.2.1.2.2.2.1 hE (Nat.le_refl _), nz_c s (by omega)]
      rw [← st] at s'
      show A i s = (decide (¬ b s < h 79 i) && decide (¬ h 80 i < a s))
      rw [hA]
      show (alN (meN h N' i) 0 n 0).testBit s = _
      rw [alt i s hs, show b s = (spT h (Int32.ofNat s) N').2 from x2, show a s = (spT h (Int32.ofNat s) N').1 from x1, g.2.1, g.2.2.1]
      unfold meN
      exact me_eq s' g.2.2.2.2.2
    obtain ⟨w3, h3, ⟨rfl, sh', b', _, hb', rfl⟩, G⟩ := (mx_201 (h := hmT (am_set (hcN h a1 q1) 64 3 0) q a b) (w := w) (wv := wv) hn (show h 68 0 = _ from hI.2.1.1.1.trans en) hw hAm n 0 0 0 0 0 ((hmT (am_set (hcN h a1 q1) 64 3 0) q a b) 97) (by omega) (by decide) (fun h => by omega)).more (5 - n)
    rw [show n + (5 - n) = 5 by omega] at G
    refine .end (some (.int v)) (hmN (hmT (am_set (hcN h a1 q1) 64 3 0) q a b) (0 + Int32.ofNat (cntN A n n 0 0)) b' sh') ⟨rfl, q, a, b, _, b', sh', rfl⟩ fun d L xs o g Q T hq => sm_200_26 ?_
    rw [show (hmT (am_set (hcN h a1 q1) 64 3 0) q a b) 68 0 = Int32.ofNat n from hI.2.1.1.1.trans en]
    refine am_iff nlt ?_
    have e : am_set (am_set (hmT (am_set (hcN h a1 q1) 64 3 0) q a b) 64 49 0) 64 50 0 = hmN (hmT (am_set (hcN h a1 q1) 64 3 0) q a b) 0 0 ((hmT (am_set (hcN h a1 q1) 64 3 0) q a b) 97) := by
      unfold hmN
      rw [up_self]
    rw [e]
    refine G (d + 1) L xs o g _ _ (sm_200_84 rfl ?_)
    by_cases c : wv = -1
    · rw [if_pos c] at hv
      refine am_ift c ?_
      rw [show (hmN (hmT (am_set (hcN h a1 q1) 64 3 0) q a b) (0 + Int32.ofNat (cntN A n n 0 0)) b' sh') 64 49 = 0 + Int32.ofNat (cntN A n n 0 0) from rfl]
      have ev : (0 + Int32.ofNat (cntN A n n 0 0) : Int32) = v := by rw [hv, Int32.zero_add]
      rw [ev] at hq ⊢
      exact hq
    · rw [if_neg c] at hv
      refine am_iff c ?_
      rw [show (hmN (hmT (am_set (hcN h a1 q1) 64 3 0) q a b) (0 + Int32.ofNat (cntN A n n 0 0)) b' sh') 64 50 = b' from rfl]
      have ev : b' = v := by
        rw [hb' c, Int32.zero_or, hv]
        exact bits_eq (hw.resolve_left c).2 0
      rw [ev] at hq ⊢
      exact hq)
  refine ⟨v, hcN h a1 q1, hmN (hmT (am_set (hcN h a1 q1) 64 3 0) qq aa bb) r b' sh, fun d L xs o g Q T hq => ?_, fun d L xs o g Q T hq => ?_, rfl, hI, rfl⟩
  · have e : am_set (am_set (am_set (am_set (am_set (am_set h 59 0 (h 3 0)) 60 0 0) 60 1 0) 60 2 0) 60 3 0) 60 4 0 = hcN h (upd (upd (upd (upd (upd (h 60) 0 0) 1 0) 2 0) 3 0) 4 0) (h 61 0, h 61 1) := by
      have e1 : am_set (am_set (am_set (am_set (am_set (am_set h 59 0 (h 3 0)) 60 0 0) 60 1 0) 60 2 0) 60 3 0) 60 4 0 = va_up (am_set h 59 0 (h 3 0)) 60 (upd (upd (upd (upd (upd (h 60) 0 0) 1 0) 2 0) 3 0) 4 0) := by
        have := up_self (am_set h 59 0 (h 3 0)) 60
        rw [← set_up, ← set_up, ← set_up, ← set_up, ← set_up, show va_up (am_set h 59 0 (h 3 0)) 60 (h 60) = am_set h 59 0 (h 3 0) from this]
      rw [e1]
      unfold hcN
      exact (w_self (va_up (am_set h 59 0 (h 3 0)) 60 (upd (upd (upd (upd (upd (h 60) 0 0) 1 0) 2 0) 3 0) 4 0)) 61 (i := 0) (j := 1)).symm
    rw [e]
    exact GC d L xs o g Q T hq
  · have e : hmT (am_set (hcN h a1 q1) 64 3 0) ((am_set (hcN h a1 q1) 64 3 0) 64 35, (am_set (hcN h a1 q1) 64 3 0) 64 36) ((am_set (hcN h a1 q1) 64 3 0) 95) ((am_set (hcN h a1 q1) 64 3 0) 96) = am_set (hcN h a1 q1) 64 3 0 := by
      unfold hmT
      rw [w_self, up_self, up_self]
    have := GM d L xs o g Q T hq
    rw [e] at this
    exact this
theorem op_names {h : am_M} (hI : Iv h) (x : Int32) : opR 122 [some (.ref 0), some (.int x), none, none] 200 [some (.ref 64), some (.int x), none] cdN h := by
  have hI' := hI
  obtain ⟨hT, hP, ⟨N, hN, e1, e2, hE, hG, hJ, hS⟩, hII, hR, hK⟩ := hI'
  have p0 := hP.1.1
  obtain ⟨b0, b1, _⟩ := hP.2.1
  obtain ⟨n, hn, en⟩ := nat_5 b0 b1
  by_cases a0 : x = -1
  · obtain ⟨v, h1, h2, A, B, _, hI2, hc⟩ := op_namesM (w := 0) (wv := x) hI hN e1 hn en (.inl a0)
    exact ⟨0, v, v, h1, h2, .v fun d L xs o g Q T hq => sm_122 (am_ift a0 (A (d + 42) L xs o g Q T hq)), fun d L xs o g Q T hq => sm_200 (am_ift a0 (B (d + 43) L xs o g Q T hq)), hI2, hc, fun _ => rfl, by decide⟩
  by_cases a1 : x < 0
  · exact op_fail hI (fun d L xs o g Q T hq => sm_122 (am_iff a0 (am_ift a1 hq))) (fun d L xs o g Q T hq => sm_200 (am_iff a0 (am_ift a1 hq)))
  by_cases a2 : x < h 3 0
  · have n2 : ¬ h 68 0 - 1 < x := by rw [p0]; exact rq5 b0 b1 a2
    have ia := iv_at a1 a2 b1
    have ex : x = Int32.ofNat x.toNatClampNeg := nz_of (by rw [nz_lt] at a1; have : (0 : Int32).toInt = 0 := rfl; omega)
    have lt : x.toNatClampNeg < n := by
      have := ia.2.1
      rw [en, nz_nlt (by omega) (by omega)] at this
      exact this
    obtain ⟨v, h1, h2, A, B, e68, hI2, hc⟩ := op_namesM (w := x.toNatClampNeg) (wv := x) hI hN e1 hn en (.inr ⟨ex, lt⟩)
    exact ⟨0, v, v, h1, h2, .v fun d L xs o g Q T hq => sm_122 (am_iff a0 (am_iff a1 (am_ift a2 (A (d + 42) L xs o g Q T hq)))), fun d L xs o g Q T hq => sm_200 (am_iff a0 (am_iff a1 (am_iff (e68 ▸ n2) (B (d + 43) L xs o g Q T hq)))), hI2, hc, fun _ => rfl, by decide⟩
  · have n2 : h 68 0 - 1 < x := by rw [p0]; exact rq5n b0 b1 a2
    exact op_fail hI (fun d L xs o g Q T hq => sm_122 (am_iff a0 (am_iff a1 (am_iff a2 hq)))) (fun d L xs o g Q T hq => sm_200 (am_iff a0 (am_iff a1 (am_ift n2 hq))))
