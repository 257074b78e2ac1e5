/-! ===== names: bits of small sets ===== -/
/-- the bit of a number as the machine makes it -/
def bt (s : Nat) : Int32 := 1 <<< (Int32.ofNat s &&& 31)
theorem bt_and : ∀ (u : Fin 32) (s : Fin 5), (Int32.ofNat u.val &&& bt s.val = 0) ↔ u.val.testBit s.val = false := by decide +kernel
theorem bt_shr : ∀ (u : Fin 32) (s : Fin 5), ((Int32.ofNat u.val >>> (Int32.ofNat s.val &&& 31)) &&& 1 = 1) ↔ u.val.testBit s.val = true := by decide +kernel
theorem bt_or : ∀ (u : Fin 32) (s : Fin 5), Int32.ofNat u.val ||| bt s.val = Int32.ofNat (u.val ||| 2 ^ s.val) ∧ u.val ||| 2 ^ s.val < 32 := by decide +kernel
theorem bt_an : ∀ (u : Fin 32) (s : Fin 5), Int32.ofNat u.val &&& bt s.val = Int32.ofNat (if u.val.testBit s.val = true then 2 ^ s.val else 0) := by decide +kernel
theorem bt_tt : ∀ (u : Fin 32) (s t : Fin 5), (if u.val.testBit s.val = true then 2 ^ s.val else 0).testBit t.val = (u.val.testBit t.val && decide (t.val = s.val)) ∧ (if u.val.testBit s.val = true then 2 ^ s.val else 0) < 32 := by decide +kernel
theorem bt_set : ∀ (u : Fin 32) (s t : Fin 5), (u.val ||| 2 ^ s.val).testBit t.val = (u.val.testBit t.val || decide (t.val = s.val)) := by decide +kernel
def smN (f : Nat → Nat) : Nat → Nat → Nat
  | _, 0 => 0
  | k, m + 1 => f k + smN f (k + 1) m
def orF (f : Nat → Int32) : Nat → Nat → Int32
  | _, 0 => 0
  | k, m + 1 => f k ||| orF f (k + 1) m
/-- ways to give names from 'one' on (m of them) ships of n that aren't in u -/
def cntN (A : Nat → Nat → Bool) (n : Nat) : Nat → Nat → Nat → Nat
  | 0, _, _ => 1
  | m + 1, one, u => smN (fun s => bif (A one s && ! u.testBit s) then cntN A n m (one + 1) (u ||| 2 ^ s) else 0) 0 n
def exN (A : Nat → Nat → Bool) (n : Nat) : Nat → Nat → Nat → Bool
  | 0, _, _ => true
  | m + 1, one, u => anyF (fun s => (A one s && ! u.testBit s) && exN A n m (one + 1) (u ||| 2 ^ s)) 0 n
/-- the ships that name w has in these; c: the one that it has by now -/
def bN (A : Nat → Nat → Bool) (n w : Nat) : Nat → Nat → Nat → Nat → Int32
  | 0, _, _, c => bt c
  | m + 1, one, u, c => orF (fun s => bif (A one s && ! u.testBit s) then bN A n w m (one + 1) (u ||| 2 ^ s) (if one = w then s else c) else 0) 0 n
def exW (A : Nat → Nat → Bool) (n w t : Nat) : Nat → Nat → Nat → Nat → Bool
  | 0, _, _, c => decide (c = t)
  | m + 1, one, u, c => anyF (fun s => (A one s && ! u.testBit s) && exW A n w t m (one + 1) (u ||| 2 ^ s) (if one = w then s else c)) 0 n
theorem smN_pos {f : Nat → Nat} : ∀ m k, 0 < smN f k m ↔ anyF (fun s => decide (0 < f s)) k m = true
  | 0, k => by simp [smN, anyF]
  | m + 1, k => by
    have := smN_pos (f := f) m (k + 1)
    simp only [smN, anyF, Bool.or_eq_true, decide_eq_true_eq]
    rw [← this]
    omega
theorem smN_le {f : Nat → Nat} {B : Nat} (hf : ∀ s, f s ≤ B) : ∀ m k, smN f k m ≤ m * B
  | 0, k => by simp [smN]
  | m + 1, k => by
    have a := smN_le hf m (k + 1)
    have b := hf k
    simp only [smN]
    rw [Nat.succ_mul]
    omega
theorem cnt_pos {A : Nat → Nat → Bool} {n : Nat} : ∀ m one u, 0 < cntN A n m one u ↔ exN A n m one u = true
  | 0, one, u => by simp [cntN, exN]
  | m + 1, one, u => by
    simp only [cntN, exN]
    rw [smN_pos, anyF_congr (f' := fun s => (A one s && ! u.testBit s) && exN A n m (one + 1) (u ||| 2 ^ s))]
    intro s _ _
    have := cnt_pos (A := A) (n := n) m (one + 1) (u ||| 2 ^ s)
    cases hb : (A one s && ! u.testBit s) with
    | false => simp
    | true =>
      rw [cond_true, Bool.true_and, Bool.eq_iff_iff, decide_eq_true_eq]
      exact this
theorem cnt_le {A : Nat → Nat → Bool} {n : Nat} (hn : n ≤ 5) : ∀ m one u, cntN A n m one u ≤ 5 ^ m
  | 0, one, u => by simp [cntN]
  | m + 1, one, u => by
    simp only [cntN]
    have h1 := smN_le (f := fun s => bif (A one s && ! u.testBit s) then cntN A n m (one + 1) (u ||| 2 ^ s) else 0) (B := 5 ^ m) (fun s => by
      cases (A one s && ! u.testBit s) with
      | true => exact cnt_le hn m _ _
      | false => exact Nat.zero_le _) n 0
    have h2 : n * 5 ^ m ≤ 5 * 5 ^ m := Nat.mul_le_mul_right _ hn
    rw [Nat.pow_succ]
    omega
theorem orF_congr {f f' : Nat → Int32} : ∀ m k, (∀ j, k ≤ j → j < k + m → f j = f' j) → orF f k m = orF f' k m
  | 0, _, _ => rfl
  | m + 1, k, h => by
    simp only [orF]
    rw [h k (by omega) (by omega), orF_congr m (k + 1) (fun j h1 h2 => h j (by omega) (by omega))]
theorem orF_or {f f' : Nat → Int32} : ∀ m k, orF f k m ||| orF f' k m = orF (fun j => f j ||| f' j) k m
  | 0, _ => by simp [orF]
  | m + 1, k => by
    simp only [orF]
    rw [← orF_or (f := f) (f' := f') m (k + 1)]
    ac_rfl
theorem orF_zero : ∀ m k, orF (fun _ => 0) k m = 0
  | 0, _ => rfl
  | m + 1, k => by simp only [orF]; rw [orF_zero m (k + 1)]; rfl
theorem orF_one {c : Nat} : ∀ m k, k ≤ c → c < k + m → orF (fun t => bif decide (c = t) then bt t else 0) k m = bt c
  | 0, k, h1, h2 => by omega
  | m + 1, k, h1, h2 => by
    simp only [orF]
    by_cases e : c = k
    · subst e
      rw [decide_eq_true rfl, cond_true]
      have : orF (fun t => bif decide (c = t) then bt t else 0) (c + 1) m = 0 := by
        refine (orF_congr m (c + 1) (fun j h1 h2 => ?_)).trans (orF_zero m (c + 1))
        rw [decide_eq_false (by omega), cond_false]
      rw [this]
      exact Int32.or_zero
    · rw [decide_eq_false e, cond_false, orF_one m (k + 1) (by omega) (by omega)]
      exact Int32.zero_or
/-- an or over s of ors over t -/
theorem or_any {n : Nat} (G : Nat → Nat → Bool) : ∀ m k, orF (fun s => orF (fun t => bif G s t then bt t else 0) 0 n) k m = orF (fun t => bif anyF (fun s => G s t) k m then bt t else 0) 0 n
  | 0, k => by
    simp only [orF, anyF]
    exact ((orF_congr n 0 (fun j _ _ => by simp)).trans (orF_zero n 0)).symm
  | m + 1, k => by
    simp only [orF]
    rw [or_any G m (k + 1), orF_or]
    apply orF_congr
    intro t _ _
    simp only [anyF]
    cases G k t <;> cases anyF (fun s => G s t) (k + 1) m <;> simp
theorem bN_eq {A : Nat → Nat → Bool} {n w : Nat} : ∀ m one u c, one + m = n → w < n → (w < one → c < n) → bN A n w m one u c = orF (fun t => bif exW A n w t m one u c then bt t else 0) 0 n
  | 0, one, u, c, h1, h2, h3 => by
    simp only [bN, exW]
    exact (orF_one n 0 (by omega) (by have := h3 (by omega); omega)).symm
  | m + 1, one, u, c, h1, h2, h3 => by
    simp only [bN, exW]
    rw [← or_any (fun s t => (A one s && ! u.testBit s) && exW A n w t m (one + 1) (u ||| 2 ^ s) (if one = w then s else c))]
    apply orF_congr
    intro s _ hs
    by_cases hb : (A one s && ! u.testBit s) = true
    · rw [hb, cond_true, bN_eq m (one + 1) _ _ (by omega) h2 (fun h => by split <;> first | omega | exact h3 (by omega))]
      simp only [hb, Bool.true_and]
    · have hb' : (A one s && ! u.testBit s) = false := by simpa using hb
      rw [hb', cond_false]
      refine ((orF_congr n 0 (fun t _ _ => ?_)).trans (orF_zero n 0)).symm
      rw [Bool.false_and, cond_false]
/-- A with name w bound to ship t -/
def tie (A : Nat → Nat → Bool) (w t : Nat) (one s : Nat) : Bool := if one = w then (A one s && decide (s = t)) else A one s
theorem anyF_and (b : Bool) (f : Nat → Bool) : ∀ m k, anyF (fun s => f s && b) k m = (anyF f k m && b)
  | 0, k => by simp [anyF]
  | m + 1, k => by
    simp only [anyF]
    rw [anyF_and b f m (k + 1)]
    cases f k <;> cases anyF f (k + 1) m <;> cases b <;> rfl
theorem exW_eq {A : Nat → Nat → Bool} {n w t : Nat} : ∀ m one u c, one + m = n → w < n → exW A n w t m one u c = if w < one then (exN (tie A w t) n m one u && decide (c = t)) else exN (tie A w t) n m one u
  | 0, one, u, c, h1, h2 => by
    rw [if_pos (by omega)]
    simp [exW, exN]
  | m + 1, one, u, c, h1, h2 => by
    simp only [exW, exN]
    by_cases hw : w < one
    · rw [if_pos hw, ← anyF_and]
      apply anyF_congr
      intro s _ _
      rw [exW_eq m (one + 1) _ _ (by omega) h2, if_pos (by omega), if_neg (by omega)]
      have : tie A w t one s = A one s := by unfold tie; rw [if_neg (by omega)]
      rw [this]
      simp only [Bool.and_assoc]
    · rw [if_neg hw]
      apply anyF_congr
      intro s _ _
      rw [exW_eq m (one + 1) _ _ (by omega) h2]
      by_cases e : one = w
      · subst e
        rw [if_pos (by omega), if_pos rfl]
        have : tie A one t one s = (A one s && decide (s = t)) := by unfold tie; rw [if_pos rfl]
        rw [this]
        cases A one s <;> cases u.testBit s <;> cases decide (s = t) <;> simp
      · rw [if_neg (by omega)]
        have : tie A w t one s = A one s := by unfold tie; rw [if_neg e]
        rw [this]
theorem cntN_congr {A A' : Nat → Nat → Bool} {n : Nat} : ∀ m one u, one + m = n → (∀ i s, i < n → s < n → A i s = A' i s) → cntN A n m one u = cntN A' n m one u
  | 0, _, _, _, _ => rfl
  | m + 1, one, u, h1, h => by
    have sc : ∀ (f f' : Nat → Nat) m k, (∀ j, k ≤ j → j < k + m → f j = f' j) → smN f k m = smN f' k m := by
      intro f f' m
      induction m with
      | zero => intro k _; rfl
      | succ m ih => intro k h; simp only [smN]; rw [h k (by omega) (by omega), ih (k + 1) (fun j h1 h2 => h j (by omega) (by omega))]
    simp only [cntN]
    apply sc
    intro s _ hs
    rw [h one s (by omega) (by omega), cntN_congr m (one + 1) _ (by omega) h]
/-- what the ships of name w come to by tying it to each -/
theorem bits_eq {A : Nat → Nat → Bool} {n w : Nat} (hw : w < n) (c : Nat) : bN A n w n 0 0 c = orF (fun t => bif decide (0 < cntN (tie A w t) n n 0 0) then bt t else 0) 0 n := by
  rw [bN_eq n 0 0 c (by omega) hw (fun h => by omega)]
  apply orF_congr
  intro t _ _
  rw [exW_eq n 0 0 c (by omega) hw, if_neg (Nat.not_lt_zero w)]
  have := cnt_pos (A := tie A w t) (n := n) n 0 0
  by_cases e : exN (tie A w t) n n 0 0 = true
  · rw [e, decide_eq_true (this.2 e)]
  · have e' : exN (tie A w t) n n 0 0 = false := by simpa using e
    rw [e', decide_eq_false (fun h => e (this.1 h))]
/-! ===== names: the class ===== -/
section
variable {h : am_M}
theorem mv_127 {n : Nat} {al : Nat → Nat} (hn : n ≤ 5) (en : h 59 0 = Int32.ofNat n) (ha : ∀ j, j < n → h 60 j = Int32.ofNat (al j) ∧ al j < 32) : ∀ (m one u : Nat), one + m = n → u < 32 → mv m 127 [some (.ref 59), some (.int (Int32.ofNat one)), some (.int (Int32.ofNat u)), none, none, none] h (some (.int (Int32.ofNat (cntN (fun i s => (al i).testBit s) n m one u)))) h := by
  intro m
  induction m with
  | zero =>
    intro one u h1 hu d L xs o g Q T hq
    refine sm_127 ?_
    rw [en]
    exact am_iff (by rw [nz_nlt (by omega) (by omega)]; omega) hq
  | succ m ih =>
    intro one u h1 hu d L xs o g Q T hq
    have i5 : am_ix (Int32.ofNat one) 5 := ix_n (by omega) (by decide)
    have lp : ∀ r k acc q5, am_nl q5 = true → k + r = n → Q (some (.int (Int32.ofNat (acc + smN (fun s => bif ((al one).testBit s && ! u.testBit s) then cntN (fun i s => (al i).testBit s) n m (one + 1) (u ||| 2 ^ s) else 0) k r)))) h o g → am_X L xs (d + (m + 1)) 127 15 [some (.ref 59), some (.int (Int32.ofNat one)), some (.int (Int32.ofNat u)), some (.int (Int32.ofNat acc)), some (.int (Int32.ofNat k)), q5] [] am_C0 h o g Q T := by
      intro r
      induction r with
      | zero =>
        intro k acc q5 h5 hk hq
        refine sm_127_15 h5 ?_
        rw [en]
        exact am_iff (by rw [nz_nlt (by omega) (by omega)]; omega) hq
      | succ r ihr =>
        intro k acc q5 h5 hk hq
        refine sm_127_15 h5 ?_
        rw [en]
        refine am_ift (by rw [nz_nlt (by omega) (by omega)]; omega) ⟨i5, ?_⟩
        rw [nz_c one (by omega), (ha one (by omega)).1, nz_succ k]
        have b1 := bt_and ⟨al one, (ha one (by omega)).2⟩ ⟨k, by omega⟩
        have b2 := bt_and ⟨u, hu⟩ ⟨k, by omega⟩
        have b3 := bt_or ⟨u, hu⟩ ⟨k, by omega⟩
        simp only [smN] at hq
        by_cases c1 : (al one).testBit k = true
        · by_cases c2 : u.testBit k = true
          · refine am_iff (fun e => by rw [b1.1 e] at c1; cases c1) (am_iff (fun e => by rw [b2.1 e] at c2; cases c2) (ihr (k + 1) acc _ rfl (by omega) ?_))
            rw [show ((al one).testBit k && ! u.testBit k) = false by simp [c2], cond_false, Nat.zero_add] at hq
            exact hq
          · have c2' : u.testBit k = false := by simpa using c2
            refine am_iff (fun e => by rw [b1.1 e] at c1; cases c1) (am_ift (b2.2 c2') ?_)
            have IH := ih (one + 1) (u ||| 2 ^ k) (by omega) b3.2
            rw [show (Int32.ofNat u ||| 1 <<< (Int32.ofNat k &&& 31)) = Int32.ofNat (u ||| 2 ^ k) from b3.1, nz_succ one]
            refine IH.use (sm_127_61 rfl rfl ?_)
            rw [show Int32.ofNat acc + Int32.ofNat (cntN (fun i s => (al i).testBit s) n m (one + 1) (u ||| 2 ^ k)) = Int32.ofNat (acc + cntN (fun i s => (al i).testBit s) n m (one + 1) (u ||| 2 ^ k)) from (Int32.ofNat_add _ _).symm, nz_succ k]
            refine ihr (k + 1) _ _ rfl (by omega) ?_
            rw [show ((al one).testBit k && ! u.testBit k) = true by simp [c1, c2'], cond_true, ← Nat.add_assoc] at hq
            exact hq
        · have c1' : (al one).testBit k = false := by simpa using c1
          refine am_ift (b1.2 c1') (ihr (k + 1) acc _ rfl (by omega) ?_)
          rw [show ((al one).testBit k && ! u.testBit k) = false by simp [c1'], cond_false, Nat.zero_add] at hq
          exact hq
    refine sm_127 ?_
    rw [en]
    refine am_ift (by rw [nz_nlt (by omega) (by omega)]; omega) (lp n 0 0 none rfl (by omega) ?_)
    rw [Nat.zero_add]
    exact hq
theorem mv_127' {n : Nat} {al : Nat → Nat} (hn : n ≤ 5) (en : h 59 0 = Int32.ofNat n) (ha : ∀ j, j < n → h 60 j = Int32.ofNat (al j) ∧ al j < 32) : mv 5 127 [some (.ref 59), some (.int 0), some (.int 0), none, none, none] h (some (.int (Int32.ofNat (cntN (fun i s => (al i).testBit s) n n 0 0)))) h := by
  have := (mv_127 hn en ha n 0 0 (by omega) (by decide)).more (5 - n)
  rw [show n + (5 - n) = 5 by omega] at this
  exact this
theorem lp_128 {n w : Nat} {al : Nat → Nat} (hn : n ≤ 5) (hw : w < n) (en : h 59 0 = Int32.ofNat n) (ha : ∀ j, j < n → h 60 j = Int32.ofNat (al j) ∧ al j < 32) : ∀ (r k : Nat) (acc y : Int32), k + r = n → mx 6 128 12 [some (.ref 59), some (.int (Int32.ofNat w)), some (.int (h 60 w)), some (.int acc), some (.int (Int32.ofNat k))] [] (am_set h 60 w y) (fun v h1 => v = some (.int (acc ||| orF (fun t => bif decide (0 < cntN (tie (fun i s => (al i).testBit s) w t) n n 0 0) then bt t else 0) k r)) ∧ h1 = h) := by
  have i5 : am_ix (Int32.ofNat w) 5 := ix_n (by omega) (by decide)
  intro r
  induction r with
  | zero =>
    intro k acc y hk
    refine .end _ _ ⟨rfl, rfl⟩ fun d L xs o g Q T hq => sm_128_12 ?_
    rw [show (am_set h 60 w y) 59 0 = Int32.ofNat n from en]
    refine am_iff (by rw [nz_nlt (by omega) (by omega)]; omega) ⟨i5, ?_⟩
    rw [nz_c w (by omega), as_twice]
    have e : am_set h 60 w (h 60 w) = h := by
      funext a b
      rw [as_get]
      split
      · rename_i hc; rw [hc.1, hc.2]
      · rfl
    rw [e]
    simp only [orF, Int32.or_zero] at hq
    exact hq
  | succ r ih =>
    intro k acc y hk
    have b1 := bt_an ⟨al w, (ha w hw).2⟩ ⟨k, by omega⟩
    have b2 := fun (t : Fin 5) => bt_tt ⟨al w, (ha w hw).2⟩ ⟨k, by omega⟩ t
    have C := mv_127' (h := am_set h 60 w (h 60 w &&& bt k)) (n := n) (al := fun j => if j = w then (if (al w).testBit k = true then 2 ^ k else 0) else al j) hn en (fun j hj => by
      by_cases e : j = w
      · subst e
        rw [as_self, (ha j hj).1, if_pos rfl]
        exact ⟨b1, (b2 0).2⟩
      · rw [as_slot h 60 _ e, if_neg e]
        exact ha j hj)
    have ec : cntN (fun i s => ((fun j => if j = w then (if (al w).testBit k = true then 2 ^ k else 0) else al j) i).testBit s) n n 0 0 = cntN (tie (fun i s => (al i).testBit s) w k) n n 0 0 := by
      apply cntN_congr n 0 0 (by omega)
      intro i s hi hs
      unfold tie
      by_cases e : i = w
      · subst e
        simp only [if_pos]
        exact (b2 ⟨s, by omega⟩).1
      · simp only [if_neg e]
    rw [ec] at C
    have le := cnt_le (A := tie (fun i s => (al i).testBit s) w k) hn n 0 0
    have l5 : (5 : Nat) ^ n ≤ 5 ^ 5 := Nat.pow_le_pow_right (by decide) hn
    have l6 : (5 : Nat) ^ 5 = 3125 := by decide
    generalize hcn : cntN (tie (fun i s => (al i).testBit s) w k) n n 0 0 = cn at C le
    by_cases c0 : 0 < cn
    · have c1 : (0 : Int32) < Int32.ofNat cn := by
        show Int32.ofNat 0 < Int32.ofNat cn
        rw [nz_nlt (by decide) (by omega)]; exact c0
      have eo : acc ||| orF (fun t => bif decide (0 < cntN (tie (fun i s => (al i).testBit s) w t) n n 0 0) then bt t else 0) k (r + 1) = (acc ||| bt k) ||| orF (fun t => bif decide (0 < cntN (tie (fun i s => (al i).testBit s) w t) n n 0 0) then bt t else 0) (k + 1) r := by
        simp only [orF]
        rw [hcn, decide_eq_true c0, cond_true, Int32.or_assoc]
      rw [eo]
      refine (ih (k + 1) (acc ||| bt k) (h 60 w &&& bt k) (by omega)).go fun d L xs o g Q T hx => sm_128_12 ?_
      rw [show (am_set h 60 w y) 59 0 = Int32.ofNat n from en]
      refine am_ift (by rw [nz_nlt (by omega) (by omega)]; omega) ⟨i5, ?_⟩
      rw [nz_c w (by omega), as_twice]
      refine C.use (sm_128_39 (am_ift c1 ?_))
      rw [nz_succ]
      exact hx
    · have c1 : ¬ (0 : Int32) < Int32.ofNat cn := by
        show ¬ Int32.ofNat 0 < Int32.ofNat cn
        rw [nz_nlt (by decide) (by omega)]; exact c0
      have eo : acc ||| orF (fun t => bif decide (0 < cntN (tie (fun i s => (al i).testBit s) w t) n n 0 0) then bt t else 0) k (r + 1) = acc ||| orF (fun t => bif decide (0 < cntN (tie (fun i s => (al i).testBit s) w t) n n 0 0) then bt t else 0) (k + 1) r := by
        simp only [orF]
        rw [hcn, decide_eq_false c0, cond_false, Int32.zero_or]
      rw [eo]
      refine (ih (k + 1) acc (h 60 w &&& bt k) (by omega)).go fun d L xs o g Q T hx => sm_128_12 ?_
      rw [show (am_set h 60 w y) 59 0 = Int32.ofNat n from en]
      refine am_ift (by rw [nz_nlt (by omega) (by omega)]; omega) ⟨i5, ?_⟩
      rw [nz_c w (by omega), as_twice]
      refine C.use (sm_128_39 (am_iff c1 ?_))
      rw [nz_succ]
      exact hx
theorem mx_128 {n w : Nat} {al : Nat → Nat} (hn : n ≤ 5) (hw : w < n) (en : h 59 0 = Int32.ofNat n) (ha : ∀ j, j < n → h 60 j = Int32.ofNat (al j) ∧ al j < 32) : mv 6 128 [some (.ref 59), some (.int (Int32.ofNat w)), none, none, none] h (some (.int (orF (fun t => bif decide (0 < cntN (tie (fun i s => (al i).testBit s) w t) n n 0 0) then bt t else 0) 0 n))) h := by
  obtain ⟨v, h1, ⟨hv, rfl⟩, G⟩ := lp_128 hn hw en ha n 0 0 (h 60 w) (by omega)
  rw [Int32.zero_or] at hv
  subst hv
  intro d L xs o g Q T hq
  refine sm_128 ⟨ix_n (by omega) (by decide), ?_⟩
  rw [nz_c w (by omega)]
  have e : am_set h1 60 w (h1 60 w) = h1 := by
    funext a b
    rw [as_get]
    split
    · rename_i hc; rw [hc.1, hc.2]
    · rfl
  have := G d L xs o g Q T hq
  rw [e] at this
  exact this
end
