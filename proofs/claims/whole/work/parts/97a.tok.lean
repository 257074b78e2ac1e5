/-! ===== tokens, as such; the class's reader ===== -/
theorem up_spec {f : Nat → Bool} : ∀ m k, k ≤ upF f k m ∧ upF f k m ≤ k + m ∧ (∀ j, k ≤ j → j < upF f k m → f j = false) ∧ (upF f k m < k + m → f (upF f k m) = true)
  | 0, k => ⟨Nat.le_refl _, Nat.le_refl _, fun j h1 h2 => by simp only [upF] at h2; omega, fun h => by simp only [upF] at h; omega⟩
  | m + 1, k => by
    simp only [upF]
    by_cases h : f k = true
    · rw [if_pos h]
      exact ⟨Nat.le_refl _, by omega, fun j h1 h2 => by omega, fun _ => h⟩
    · rw [if_neg h]
      obtain ⟨a, b, c, d⟩ := up_spec (f := f) m (k + 1)
      refine ⟨by omega, by omega, fun j h1 h2 => ?_, fun hh => d (by omega)⟩
      by_cases e : j = k
      · subst e; simpa using h
      · exact c j (by omega) h2
/-- a token's first byte, the byte behind it, its kind (0: none, 1: a word, 2: a number, 3: the sign, 5: another), from p on -/
def tkS (K : Nat → Int32) (n p : Nat) : Nat := upF (fun j => decide (¬ K j = 4)) p (n - p)
def tkR (K : Nat → Int32) (n q : Nat) (k : Int32) : Nat := upF (fun j => decide (¬ K j = k)) q (n - q)
def tkK (K : Nat → Int32) (n p : Nat) : Int32 := if tkS K n p < n then K (tkS K n p) else 0
def tkE (K : Nat → Int32) (n p : Nat) : Nat := if tkS K n p < n then (if K (tkS K n p) = 1 ∨ K (tkS K n p) = 2 then tkR K n (tkS K n p + 1) (K (tkS K n p)) else tkS K n p + 1) else tkS K n p
section
variable {K : Nat → Int32} {n p : Nat}
theorem tkS_le (hp : p ≤ n) : p ≤ tkS K n p ∧ tkS K n p ≤ n := by
  have := up_spec (f := fun j => decide (¬ K j = 4)) (n - p) p
  unfold tkS
  omega
theorem tkS_n4 (h : tkS K n p < n) (hp : p ≤ n) : ¬ K (tkS K n p) = 4 := by
  have := (up_spec (f := fun j => decide (¬ K j = 4)) (n - p) p).2.2.2 (by unfold tkS at h; omega)
  rw [decide_eq_true_eq] at this
  exact this
theorem tkE_le (hp : p ≤ n) : tkS K n p ≤ tkE K n p ∧ tkE K n p ≤ n ∧ (tkS K n p < n → tkS K n p < tkE K n p) := by
  have a := tkS_le (K := K) hp
  unfold tkE
  by_cases c : tkS K n p < n
  · rw [if_pos c]
    by_cases c2 : K (tkS K n p) = 1 ∨ K (tkS K n p) = 2
    · rw [if_pos c2]
      have := up_spec (f := fun j => decide (¬ K j = K (tkS K n p))) (n - (tkS K n p + 1)) (tkS K n p + 1)
      unfold tkR
      omega
    · rw [if_neg c2]
      omega
  · rw [if_neg c]
    omega
theorem tk_all (hp : p ≤ n) (hk : tkK K n p = 1 ∨ tkK K n p = 2) : tkS K n p < n ∧ ∀ j, tkS K n p ≤ j → j < tkE K n p → K j = tkK K n p := by
  unfold tkK at hk ⊢
  by_cases c : tkS K n p < n
  · rw [if_pos c] at hk ⊢
    refine ⟨c, fun j h1 h2 => ?_⟩
    unfold tkE at h2
    rw [if_pos c, if_pos hk] at h2
    by_cases e : j = tkS K n p
    · rw [e]
    · have := (up_spec (f := fun j => decide (¬ K j = K (tkS K n p))) (n - (tkS K n p + 1)) (tkS K n p + 1)).2.2.1 j (by omega) h2
      rw [decide_eq_false_iff_not, Classical.not_not] at this
      exact this
  · rw [if_neg c] at hk
    rcases hk with hk | hk <;> exact absurd hk (by decide)
theorem tk_skip (hp : p < n) (h4 : K p = 4) : tkS K n p = tkS K n (p + 1) ∧ tkE K n p = tkE K n (p + 1) ∧ tkK K n p = tkK K n (p + 1) := by
  have e : tkS K n p = tkS K n (p + 1) := by
    unfold tkS
    rw [show n - p = (n - (p + 1)) + 1 by omega, upF, if_neg (by rw [decide_eq_true_eq]; exact fun h => h h4)]
  refine ⟨e, ?_, ?_⟩
  · unfold tkE; rw [e]
  · unfold tkK; rw [e]
theorem tk_here (hp : p < n) (h4 : ¬ K p = 4) : tkS K n p = p := by
  unfold tkS
  rw [show n - p = (n - (p + 1)) + 1 by omega, upF, if_pos (by rw [decide_eq_true_eq]; exact h4)]
theorem tk_end : tkS K n n = n := by
  unfold tkS
  rw [Nat.sub_self]
  rfl
end
def x1t (k j : Nat) : Bool := Nat.beq k 1 && (Nat.beq j 5 || (Nat.beq j 6 || Nat.beq j 7))
/-- the kinds of the tape's bytes -/
def kdC (h : am_M) (j : Nat) : Int32 := fn_28 (h 2 j)
section
variable {h : am_M} {n : Nat}
theorem lp_27b (hn : n ≤ 500) (en : h 1 4 = Int32.ofNat n) {k : Int32} : ∀ (m q : Nat) (h' : am_M), q + m = n → fr x1t h h' → h' 1 5 = Int32.ofNat q → h' 1 7 = k → mx 1 27 107 [some (.ref 1)] [] h' (fun v h1 => v = none ∧ fr x1t h h1 ∧ h1 1 5 = Int32.ofNat (tkR (kdC h) n q k) ∧ h1 1 6 = h' 1 6 ∧ h1 1 7 = k) := by
  intro m
  induction m with
  | zero =>
    intro q h' hq hf e5 e7
    have : q = n := by omega
    subst this
    refine .end none h' ⟨rfl, hf, ?_, rfl, e7⟩ fun d L xs o g Q T hqq => sm_27_107 ?_
    · rw [e5]; unfold tkR; rw [Nat.sub_self]; rfl
    · rw [e5, hf 1 4 rfl, en]
      exact am_iff (by rw [nz_nlt (by omega) (by omega)]; omega) hqq
  | succ m ih =>
    intro q h' hq hf e5 e7
    have lt : Int32.ofNat q < Int32.ofNat n := by rw [nz_nlt (by omega) (by omega)]; omega
    have e2 : h' 2 q = h 2 q := hf 2 q rfl
    have er : tkR (kdC h) n q k = if decide (¬ kdC h q = k) = true then q else tkR (kdC h) n (q + 1) k := by
      unfold tkR
      rw [show n - q = (n - (q + 1)) + 1 by omega, upF]
    by_cases c : kdC h q = k
    · rw [er, if_neg (by rw [decide_eq_true_eq]; exact fun h => h c)]
      refine (ih (q + 1) (am_set h' 1 5 (Int32.ofNat (q + 1))) (by omega) (hf.set 1 5 _ rfl) (as_self _ _ _ _) e7).go fun d L xs o g Q T hx => sm_27_107 ?_
      rw [e5, hf 1 4 rfl, en, e7]
      refine am_ift lt ⟨ix_n (by omega) (by decide), ?_⟩
      rw [nz_c q (by omega), e2, nz_succ]
      exact am_ift c hx
    · rw [er, if_pos (by rw [decide_eq_true_eq]; exact c)]
      refine .end none h' ⟨rfl, hf, e5, rfl, e7⟩ fun d L xs o g Q T hqq => sm_27_107 ?_
      rw [e5, hf 1 4 rfl, en, e7]
      refine am_ift lt ⟨ix_n (by omega) (by decide), ?_⟩
      rw [nz_c q (by omega), e2]
      exact am_iff c hqq
theorem mx_27 (hn : n ≤ 500) (en : h 1 4 = Int32.ofNat n) : ∀ (m p : Nat) (h' : am_M), p + m = n → fr x1t h h' → h' 1 5 = Int32.ofNat p → mx 1 27 0 [some (.ref 1)] [] h' (fun v h1 => v = none ∧ fr x1t h h1 ∧ h1 1 5 = Int32.ofNat (tkE (kdC h) n p) ∧ h1 1 6 = Int32.ofNat (tkS (kdC h) n p) ∧ h1 1 7 = tkK (kdC h) n p) := by
  intro m
  induction m with
  | zero =>
    intro p h' hp hf e5
    have : p = n := by omega
    subst this
    have eS := tk_end (K := kdC h) (n := p)
    have eE : tkE (kdC h) p p = p := by unfold tkE; rw [eS, if_neg (Nat.lt_irrefl p)]
    have eK : tkK (kdC h) p p = 0 := by unfold tkK; rw [eS, if_neg (Nat.lt_irrefl p)]
    refine .end none (am_set (am_set h' 1 6 (Int32.ofNat p)) 1 7 0) ⟨rfl, (hf.set 1 6 _ rfl).set 1 7 _ rfl, ?_, ?_, ?_⟩ fun d L xs o g Q T hqq => sm_27 ?_
    · rw [eE]; exact e5
    · rw [eS]; rfl
    · rw [eK]; rfl
    · rw [e5, hf 1 4 rfl, en]
      exact am_iff (by rw [nz_nlt (by omega) (by omega)]; omega) hqq
  | succ m ih =>
    intro p h' hp hf e5
    have lt : Int32.ofNat p < Int32.ofNat n := by rw [nz_nlt (by omega) (by omega)]; omega
    have e2 : h' 2 p = h 2 p := hf 2 p rfl
    by_cases c4 : kdC h p = 4
    · obtain ⟨s1, s2, s3⟩ := tk_skip (K := kdC h) (show p < n by omega) c4
      rw [s1, s2, s3]
      refine (ih (p + 1) (am_set h' 1 5 (Int32.ofNat (p + 1))) (by omega) (hf.set 1 5 _ rfl) (as_self _ _ _ _)).go fun d L xs o g Q T hx => sm_27 ?_
      rw [e5, hf 1 4 rfl, en]
      refine am_ift lt ⟨ix_n (by omega) (by decide), ?_⟩
      rw [nz_c p (by omega), e2, nz_succ]
      exact am_ift c4 hx
    have eS := tk_here (K := kdC h) (show p < n by omega) c4
    have eK : tkK (kdC h) n p = kdC h p := by unfold tkK; rw [eS, if_pos (by omega)]
    have run : ∀ {d L : Nat} {xs : Nat → Int32} {o : am_L} {g : Nat} {Q : Option Value → am_M → am_L → Nat → Prop} {T : Nat → am_M → am_L → Nat → Prop}, (if kdC h p = 1 then am_X L xs (d + 1) 27 107 [some (.ref 1)] [] am_C0 (am_set (am_set (am_set h' 1 6 (Int32.ofNat p)) 1 7 (kdC h p)) 1 5 (Int32.ofNat (p + 1))) o g Q T else if kdC h p = 2 then am_X L xs (d + 1) 27 107 [some (.ref 1)] [] am_C0 (am_set (am_set (am_set h' 1 6 (Int32.ofNat p)) 1 7 (kdC h p)) 1 5 (Int32.ofNat (p + 1))) o g Q T else Q none (am_set (am_set (am_set h' 1 6 (Int32.ofNat p)) 1 7 (kdC h p)) 1 5 (Int32.ofNat (p + 1))) o g) → am_X L xs (d + 1) 27 0 [some (.ref 1)] [] am_C0 h' o g Q T := fun {d L xs o g Q T} hx => by
      refine sm_27 ?_
      rw [e5, hf 1 4 rfl, en]
      refine am_ift lt ⟨ix_n (by omega) (by decide), ?_⟩
      rw [nz_c p (by omega), e2, nz_succ]
      exact am_iff c4 hx
    have f3 : fr x1t h (am_set (am_set (am_set h' 1 6 (Int32.ofNat p)) 1 7 (kdC h p)) 1 5 (Int32.ofNat (p + 1))) := ((hf.set 1 6 _ rfl).set 1 7 _ rfl).set 1 5 _ rfl
    by_cases c12 : kdC h p = 1 ∨ kdC h p = 2
    · have eE : tkE (kdC h) n p = tkR (kdC h) n (p + 1) (kdC h p) := by unfold tkE; rw [eS, if_pos (by omega), if_pos c12]
      rw [eE, eS, eK]
      refine ((lp_27b hn en m (p + 1) _ (by omega) f3 (as_self _ _ _ _) (k := kdC h p) rfl).mono ?_).go fun d L xs o g Q T hx => run ?_
      · rintro v h1 ⟨rfl, g1, g2, g3, g4⟩
        exact ⟨rfl, g1, g2, g3, g4⟩
      · rcases c12 with c | c
        · exact am_ift c hx
        · exact am_iff (fun e => by rw [c] at e; exact absurd e (by decide)) (am_ift c hx)
    · have eE : tkE (kdC h) n p = p + 1 := by unfold tkE; rw [eS, if_pos (by omega), if_neg c12]
      rw [eE, eS, eK]
      exact .end none _ ⟨rfl, f3, as_self _ _ _ _, rfl, rfl⟩ fun d L xs o g Q T hqq => run (am_iff (fun e => c12 (.inl e)) (am_iff (fun e => c12 (.inr e)) hqq))
/-- the token from p on is the one that is looked at -/
def tkC (h : am_M) (n p : Nat) : Prop := h 1 5 = Int32.ofNat (tkE (kdC h) n p) ∧ h 1 6 = Int32.ofNat (tkS (kdC h) n p) ∧ h 1 7 = tkK (kdC h) n p
/-- a token is a word -/
def wdm (V : Nat → Int32) (tx : List Int32) (s i : Nat) : Bool := decide (¬ V (s + i) = tx.getD i 0)
def isW (V K : Nat → Int32) (n : Nat) (tx : List Int32) (p : Nat) : Bool := decide (tkK K n p = 1) && (decide (tkE K n p - tkS K n p = tx.length) && ! anyF (wdm V tx (tkS K n p)) 0 tx.length)
theorem sub_n {a b : Nat} (h : b ≤ a) : Int32.ofNat a - Int32.ofNat b = Int32.ofNat (a - b) := by
  have e : Int32.ofNat a = Int32.ofNat (a - b) + Int32.ofNat b := by
    rw [← Int32.ofNat_add]
    congr 1
    omega
  rw [e, Int32.add_sub_cancel]
theorem mv_30 (hn : n ≤ 500) {p ws : Nat} {tx : List Int32} (hp : p ≤ n) (hs : am_sx ws) (ht : am_txt (ws - am_big) = tx) (hl : tx.length ≤ 20) (H : tkC h n p) : mv 0 30 [some (.ref 1), some (.ref ws), none] h (some (.int (bif isW (h 2) (kdC h) n tx p then 1 else 0))) h := fun d L xs o g Q T hq => by
  obtain ⟨e5, e6, e7⟩ := H
  obtain ⟨a1, a2⟩ := tkS_le (K := kdC h) hp
  obtain ⟨b1, b2, _⟩ := tkE_le (K := kdC h) hp
  unfold isW at hq
  refine sm_30 hs ht ?_
  rw [e5, e6, e7, sub_n b1]
  by_cases c1 : tkK (kdC h) n p = 1
  rotate_left
  · rw [decide_eq_false c1, Bool.false_and, cond_false] at hq
    exact am_iff c1 hq
  rw [decide_eq_true c1, Bool.true_and] at hq
  refine am_ift c1 ?_
  by_cases c2 : tkE (kdC h) n p - tkS (kdC h) n p = tx.length
  rotate_left
  · rw [decide_eq_false c2, Bool.false_and, cond_false] at hq
    exact am_iff (by rw [nz_inj (by omega) (by omega)]; exact c2) hq
  rw [decide_eq_true c2, Bool.true_and] at hq
  refine am_ift (by rw [nz_inj (by omega) (by omega)]; exact c2) ?_
  have lp : ∀ m i, i + m = tx.length → Q (some (.int (bif ! anyF (wdm (h 2) tx (tkS (kdC h) n p)) i m then 1 else 0))) h o g → am_X L xs d 30 28 [some (.ref 1), some (.ref ws), some (.int (Int32.ofNat i))] [] am_C0 h o g Q T := by
    intro m
    induction m with
    | zero =>
      intro i hi hq
      exact sm_30_28 hs ht (am_iff (by rw [nz_nlt (by omega) (by omega)]; omega) hq)
    | succ m ih =>
      intro i hi hq
      refine sm_30_28 hs ht (am_ift (by rw [nz_nlt (by omega) (by omega)]; omega) ?_)
      rw [e6, ← Int32.ofNat_add, nz_c (tkS (kdC h) n p + i) (by omega), nz_c i (by omega), nz_succ]
      refine ⟨ix_n (by omega) (by decide), ix_n (by omega) (by omega), ?_⟩
      simp only [anyF] at hq
      by_cases c : h 2 (tkS (kdC h) n p + i) = tx.getD i 0
      · rw [show wdm (h 2) tx (tkS (kdC h) n p) i = false from decide_eq_false (fun h => h c), Bool.false_or] at hq
        exact am_ift c (ih (i + 1) (by omega) hq)
      · rw [show wdm (h 2) tx (tkS (kdC h) n p) i = true from decide_eq_true c, Bool.true_or, Bool.not_true, cond_false] at hq
        exact am_iff c hq
  exact lp tx.length 0 (by omega) hq
/-- the first digits of a number -/
def dgF (V : Nat → Int32) (s : Nat) : Nat → Int32
  | 0 => 0
  | i + 1 => 10 * dgF V s i + V (s + i) - 48
def vlN (V K : Nat → Int32) (n p : Nat) : Int32 := dgF V (tkS K n p) (min (tkE K n p - tkS K n p) 3)
theorem mv_34 (hn : n ≤ 500) {p : Nat} (hp : p ≤ n) (H : tkC h n p) : mv 0 34 [some (.ref 1), none, none] h (some (.int (vlN (h 2) (kdC h) n p))) h := fun d L xs o g Q T hq => by
  obtain ⟨e5, e6, e7⟩ := H
  obtain ⟨a1, a2⟩ := tkS_le (K := kdC h) hp
  obtain ⟨b1, b2, _⟩ := tkE_le (K := kdC h) hp
  have lp : ∀ m i, i + m = min (tkE (kdC h) n p - tkS (kdC h) n p) 3 → am_X L xs d 34 7 [some (.ref 1), some (.int (dgF (h 2) (tkS (kdC h) n p) i)), some (.int (Int32.ofNat (tkS (kdC h) n p + i)))] [] am_C0 h o g Q T := by
    intro m
    induction m with
    | zero =>
      intro i hi
      have hie : i = min (tkE (kdC h) n p - tkS (kdC h) n p) 3 := by omega
      refine sm_34_7 ?_
      rw [e5, e6, show Int32.ofNat (tkS (kdC h) n p) + 3 = Int32.ofNat (tkS (kdC h) n p + 3) from (Int32.ofNat_add _ 3).symm]
      rw [hie]
      by_cases c : tkS (kdC h) n p + min (tkE (kdC h) n p - tkS (kdC h) n p) 3 < tkE (kdC h) n p
      · exact am_ift (by rw [nz_nlt (by omega) (by omega)]; exact c) (am_iff (by rw [nz_nlt (by omega) (by omega)]; omega) hq)
      · exact am_iff (by rw [nz_nlt (by omega) (by omega)]; exact c) hq
    | succ m ih =>
      intro i hi
      refine sm_34_7 ?_
      rw [e5, e6, show Int32.ofNat (tkS (kdC h) n p) + 3 = Int32.ofNat (tkS (kdC h) n p + 3) from (Int32.ofNat_add _ 3).symm]
      refine am_ift (by rw [nz_nlt (by omega) (by omega)]; omega) (am_ift (by rw [nz_nlt (by omega) (by omega)]; omega) ⟨ix_n (by omega) (by decide), ?_⟩)
      rw [nz_c _ (by omega), nz_succ]
      exact ih (i + 1) (by omega)
  refine sm_34 ?_
  rw [e6]
  exact lp (min (tkE (kdC h) n p - tkS (kdC h) n p) 3) 0 (Nat.zero_add _)
/-- a number that is as told; what reading gives; the fault behind it -/
def okN (V K : Nat → Int32) (n p : Nat) (lo hi : Int32) : Bool := decide (tkK K n p = 2) && (decide (tkE K n p - tkS K n p ≤ 3) && (decide (¬ vlN V K n p < lo) && decide (¬ hi < vlN V K n p)))
def cNv (V K : Nat → Int32) (n p : Nat) (lo hi : Int32) : Int32 := bif okN V K n p lo hi then vlN V K n p else lo
def cNf (V K : Nat → Int32) (n p : Nat) (lo hi : Int32) (φ : Int32 × Int32) : Int32 × Int32 := bif okN V K n p lo hi then φ else if φ.1 = 0 then (if tkK K n p = 2 then 2 else 1, Int32.ofNat (tkS K n p)) else φ
def x1n (k j : Nat) : Bool := Nat.beq k 1 && (Nat.beq j 1 || (Nat.beq j 3 || (Nat.beq j 5 || (Nat.beq j 6 || Nat.beq j 7))))
theorem x1t_n {k j : Nat} (h : x1t k j = true) : x1n k j = true := by
  unfold x1t at h
  simp only [Bool.or_eq_true, Bool.and_eq_true, Nat.beq_eq] at h
  obtain ⟨h, h'⟩ := h
  rcases h' with h' | h' | h' <;> subst h h' <;> rfl
theorem kdC_fr {X : Nat → Nat → Bool} {h1 : am_M} (f : fr X h h1) (hX : ∀ j, X 2 j = false) : kdC h1 = kdC h ∧ h1 2 = h 2 := by
  have e := f.cell 2 hX
  exact ⟨by unfold kdC; rw [e], e⟩
theorem mx_33 (hn : n ≤ 500) (en : h 1 4 = Int32.ofNat n) {p : Nat} {lo hi : Int32} (hp : p ≤ n) (e5 : h 1 5 = Int32.ofNat p) : mx 2 33 0 [some (.ref 1), some (.int lo), some (.int hi), none] [] h (fun v h1 => v = some (.int (cNv (h 2) (kdC h) n p lo hi)) ∧ fr x1n h h1 ∧ tkC h1 n p ∧ (h1 1 3, h1 1 1) = cNf (h 2) (kdC h) n p lo hi (h 1 3, h 1 1)) := by
  obtain ⟨v, h1, ⟨rfl, f1, g5, g6, g7⟩, G⟩ := mx_27 (h := h) hn en (n - p) p h (by omega) (fr.refl _ _) e5
  obtain ⟨k1, k2⟩ := kdC_fr f1 (fun _ => rfl)
  have T1 : tkC h1 n p := by unfold tkC; rw [k1]; exact ⟨g5, g6, g7⟩
  have N := mv_34 (h := h1) hn hp T1
  rw [k1, k2] at N
  have e3 : h1 1 3 = h 1 3 := f1 1 3 rfl
  have e1 : h1 1 1 = h 1 1 := f1 1 1 rfl
  have fN := f1.or fun _ _ hk => x1t_n hk
  obtain ⟨b1, b2, _⟩ := tkE_le (K := kdC h) hp
  obtain ⟨a1, a2⟩ := tkS_le (K := kdC h) hp
  have ln : h1 1 5 - h1 1 6 = Int32.ofNat (tkE (kdC h) n p - tkS (kdC h) n p) := by rw [g5, g6, sub_n b1]
  have bad : ∀ (f : Int32), okN (h 2) (kdC h) n p lo hi = false → f = (if tkK (kdC h) n p = 2 then 2 else 1) → ∃ h2, (some (Value.int lo) = some (.int (cNv (h 2) (kdC h) n p lo hi)) ∧ fr x1n h h2 ∧ tkC h2 n p ∧ (h2 1 3, h2 1 1) = cNf (h 2) (kdC h) n p lo hi (h 1 3, h 1 1)) ∧ ∀ {o : am_L} {g : Nat} {Q : Option Value → am_M → am_L → Nat → Prop}, Q (some (.int lo)) h2 o g → (if h1 1 3 = 0 then Q (some (.int lo)) (am_set (am_set h1 1 3 f) 1 1 (h1 1 6)) o g else Q (some (.int lo)) h1 o g) := fun f ho hf => by
    have ev : cNv (h 2) (kdC h) n p lo hi = lo := by unfold cNv; rw [ho]; rfl
    by_cases c : h 1 3 = 0
    · refine ⟨am_set (am_set h1 1 3 f) 1 1 (h1 1 6), ⟨by rw [ev], (fN.set 1 3 _ rfl).set 1 1 _ rfl, T1, ?_⟩, fun hq => am_ift (e3.trans c) hq⟩
      show (f, h1 1 6) = _
      unfold cNf
      rw [ho, cond_false]
      simp only [c, if_true]
      rw [hf, g6]
    · refine ⟨h1, ⟨by rw [ev], fN, T1, ?_⟩, fun hq => am_iff (by rw [e3]; exact c) hq⟩
      unfold cNf
      rw [ho, cond_false, e3, e1]
      simp only [c, if_false]
  by_cases c1 : tkK (kdC h) n p = 2
  rotate_left
  · obtain ⟨h2, hP, hQ⟩ := bad 1 (by unfold okN; rw [decide_eq_false c1, Bool.false_and]) (by rw [if_neg c1])
    exact .end (some (.int lo)) h2 hP fun d L xs o g Q T hq => sm_33 (G (d + 0) L xs o g _ _ (sm_33_4 rfl (am_iff (by rw [g7]; exact c1) (hQ hq))))
  by_cases c2 : tkE (kdC h) n p - tkS (kdC h) n p ≤ 3
  rotate_left
  · obtain ⟨h2, hP, hQ⟩ := bad 2 (by unfold okN; rw [decide_eq_false c2, Bool.false_and, Bool.and_false]) (by rw [if_pos c1])
    refine .end (some (.int lo)) h2 hP fun d L xs o g Q T hq => sm_33 (G (d + 0) L xs o g _ _ (sm_33_4 rfl (am_ift (by rw [g7]; exact c1) (N.use (sm_33_23 rfl (am_ift ?_ (hQ hq)))))))
    rw [ln]
    show Int32.ofNat 3 < _
    rw [nz_nlt (by decide) (by omega)]
    omega
  have nl : ¬ 3 < h1 1 5 - h1 1 6 := by
    rw [ln]
    show ¬ Int32.ofNat 3 < _
    rw [nz_nlt (by decide) (by omega)]
    omega
  by_cases c3 : vlN (h 2) (kdC h) n p < lo
  · obtain ⟨h2, hP, hQ⟩ := bad 2 (by unfold okN; rw [decide_eq_false (show ¬ ¬ vlN (h 2) (kdC h) n p < lo from fun h => h c3), Bool.false_and, Bool.and_false, Bool.and_false]) (by rw [if_pos c1])
    exact .end (some (.int lo)) h2 hP fun d L xs o g Q T hq => sm_33 (G (d + 0) L xs o g _ _ (sm_33_4 rfl (am_ift (by rw [g7]; exact c1) (N.use (sm_33_23 rfl (am_iff nl (am_ift c3 (hQ hq))))))))
  by_cases c4 : hi < vlN (h 2) (kdC h) n p
  · obtain ⟨h2, hP, hQ⟩ := bad 2 (by unfold okN; rw [decide_eq_false (show ¬ ¬ hi < vlN (h 2) (kdC h) n p from fun h => h c4), Bool.and_false, Bool.and_false, Bool.and_false]) (by rw [if_pos c1])
    exact .end (some (.int lo)) h2 hP fun d L xs o g Q T hq => sm_33 (G (d + 0) L xs o g _ _ (sm_33_4 rfl (am_ift (by rw [g7]; exact c1) (N.use (sm_33_23 rfl (am_iff nl (am_iff c3 (am_ift c4 (hQ hq)))))))))
  have ho : okN (h 2) (kdC h) n p lo hi = true := by
    unfold okN
    rw [decide_eq_true c1, decide_eq_true c2, decide_eq_true c3, decide_eq_true c4]
    rfl
  refine .end (some (.int (vlN (h 2) (kdC h) n p))) h1 ⟨?_, fN, T1, ?_⟩ fun d L xs o g Q T hq => sm_33 (G (d + 0) L xs o g _ _ (sm_33_4 rfl (am_ift (by rw [g7]; exact c1) (N.use (sm_33_23 rfl (am_iff nl (am_iff c3 (am_iff c4 hq))))))))
  · unfold cNv; rw [ho]; rfl
  · unfold cNf; rw [ho, cond_true, e3, e1]
end
