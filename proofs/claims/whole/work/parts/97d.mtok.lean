/-! ===== tokens: the model ===== -/
/-- the two ways to see a byte -/
abbrev kdOK (v c : Int32) : Prop := ((c = 32 ∨ c = 10) ↔ fn_28 v = 4) ∧ (¬ c = -1) ∧ ((¬ c < 97 ∧ ¬ 122 < c) ↔ fn_28 v = 1) ∧ ((¬ c < 48 ∧ ¬ 57 < c) ↔ fn_28 v = 2) ∧ (c = 59 ↔ fn_28 v = 3) ∧ ((fn_28 v = 1 ∨ fn_28 v = 2) → c = v) ∧ (fn_28 v = 1 ∨ fn_28 v = 2 ∨ fn_28 v = 3 ∨ fn_28 v = 4 ∨ fn_28 v = 5)
theorem kd_all : ∀ i : Fin 256, kdOK (Int32.ofNat i.val - 128) ((Int32.ofNat i.val - 128) &&& 255) := by decide +kernel
theorem kd_ok {v c : Int32} (h0 : ¬ v < -128) (h1 : ¬ 127 < v) (hc : c = v &&& 255) : kdOK v c := by
  have e : 0 ≤ (v + 128).toInt ∧ (v + 128).toInt ≤ 255 := by
    rw [nz_lt] at h0 h1
    have c1 : (-128 : Int32).toInt = -128 := rfl
    have c2 : (127 : Int32).toInt = 127 := rfl
    have c3 : (128 : Int32).toInt = 128 := rfl
    rw [nz_add (by omega) (by omega), c3]
    omega
  have q : v = Int32.ofNat (v + 128).toNatClampNeg - 128 := by
    rw [← nz_of e.1]
    grind
  have := kd_all ⟨(v + 128).toNatClampNeg, by rw [nz_cn]; omega⟩
  simp only at this
  rw [← q, ← hc] at this
  exact this
/-- bytes of the tape, both sides -/
def tpM (h : am_M) (n : Nat) : Prop := ∀ j, j < n → kdOK (h 2 j) (h 81 j)
def mkM (k : Int32) : Int32 := if k = 5 then 4 else k
def x6t (k j : Nat) : Bool := Nat.beq k 64 && (Nat.beq j 19 || (Nat.beq j 21 || (Nat.beq j 22 || (Nat.beq j 23 || Nat.beq j 24))))
/-- the model looks at the token from p on -/
def TM (V K : Nat → Int32) (n : Nat) (h : am_M) (p : Nat) : Prop := h 64 19 = Int32.ofNat (tkE K n p) ∧ h 64 24 = Int32.ofNat (tkE K n p) ∧ h 64 23 = Int32.ofNat (tkS K n p) ∧ h 64 21 = mkM (tkK K n p) ∧ (tkK K n p = 2 → tkE K n p - tkS K n p ≤ 3 → h 64 22 = vlN V K n p)
section
variable {h : am_M} {n : Nat}
theorem lp_134w (hn : n ≤ 500) (en : h 64 20 = Int32.ofNat n) (ht : tpM h n) {q1 : Option Value} (hq1 : am_nl q1 = true) : ∀ (m q : Nat) (h' : am_M), q + m = n → fr x6t h h' → h' 64 19 = Int32.ofNat q → mx 1 134 76 [some (.ref 64), q1] [] h' (fun v h1 => v = none ∧ fr x6t h h1 ∧ h1 64 19 = Int32.ofNat (tkR (kdC h) n q 1) ∧ h1 64 24 = Int32.ofNat (tkR (kdC h) n q 1) ∧ h1 64 23 = h' 64 23 ∧ h1 64 21 = 1) := by
  intro m
  induction m with
  | zero =>
    intro q h' hq hf e19
    have : q = n := by omega
    subst this
    have er : tkR (kdC h) q q 1 = q := by unfold tkR; rw [Nat.sub_self]; rfl
    rw [er]
    refine .end none (am_set (am_set h' 64 21 1) 64 24 (Int32.ofNat q)) ⟨rfl, (hf.set 64 21 _ rfl).set 64 24 _ rfl, e19, rfl, rfl, rfl⟩ fun d L xs o g Q T hqq => sm_134_76 hq1 ?_
    rw [e19, hf 64 20 rfl, en]
    exact am_iff (by rw [nz_nlt (by omega) (by omega)]; omega) hqq
  | succ m ih =>
    intro q h' hq hf e19
    have lt : Int32.ofNat q < Int32.ofNat n := by rw [nz_nlt (by omega) (by omega)]; omega
    obtain ⟨t1, t2, t3, t4, t5, t6, t7⟩ := ht q (by omega)
    have e81 : h' 81 q = h 81 q := hf 81 q rfl
    have er : tkR (kdC h) n q 1 = if decide (¬ kdC h q = 1) = true then q else tkR (kdC h) n (q + 1) 1 := by
      unfold tkR
      rw [show n - q = (n - (q + 1)) + 1 by omega, upF]
    by_cases c : kdC h q = 1
    · rw [er, if_neg (by rw [decide_eq_true_eq]; exact fun h => h c)]
      obtain ⟨c1, c2⟩ := t3.2 c
      refine (ih (q + 1) (am_set h' 64 19 (Int32.ofNat (q + 1))) (by omega) (hf.set 64 19 _ rfl) (as_self _ _ _ _)).go fun d L xs o g Q T hx => sm_134_76 hq1 ?_
      rw [e19, hf 64 20 rfl, en]
      refine am_ift lt ⟨ix_n (by omega) (by decide), ?_⟩
      rw [nz_c q (by omega), e81, nz_succ]
      exact am_iff c1 (am_iff c2 hx)
    · rw [er, if_pos (by rw [decide_eq_true_eq]; exact c)]
      refine .end none (am_set (am_set h' 64 21 1) 64 24 (Int32.ofNat q)) ⟨rfl, (hf.set 64 21 _ rfl).set 64 24 _ rfl, e19, rfl, rfl, rfl⟩ fun d L xs o g Q T hqq => sm_134_76 hq1 ?_
      rw [e19, hf 64 20 rfl, en]
      refine am_ift lt ⟨ix_n (by omega) (by decide), ?_⟩
      rw [nz_c q (by omega), e81]
      by_cases c1 : h 81 q < 97
      · exact am_ift c1 hqq
      · exact am_iff c1 (am_ift (Classical.byContradiction fun c2 => c (t3.1 ⟨c1, c2⟩)) hqq)
/-- three digits at most: below a thousand -/
theorem dg_b {V : Nat → Int32} {s : Nat} : ∀ i, i ≤ 3 → (∀ j, j < i → ¬ V (s + j) < 48 ∧ ¬ 57 < V (s + j)) → 0 ≤ (dgF V s i).toInt ∧ (dgF V s i).toInt < (10 : Int) ^ i
  | 0, _, _ => by
    have : (0 : Int32).toInt = 0 := rfl
    simp only [dgF, this]
    decide
  | i + 1, hi, hd => by
    obtain ⟨a, b⟩ := dg_b (V := V) (s := s) i (by omega) (fun j hj => hd j (by omega))
    obtain ⟨c, d⟩ := hd i (by omega)
    rw [nz_lt] at c d
    have z48 : (48 : Int32).toInt = 48 := rfl
    have z57 : (57 : Int32).toInt = 57 := rfl
    have z10 : (10 : Int32).toInt = 10 := rfl
    have e : i = 0 ∨ i = 1 ∨ i = 2 := by omega
    have b' : (dgF V s i).toInt < 100 := by rcases e with e | e | e <;> subst e <;> simp at b <;> omega
    have m : (10 * dgF V s i).toInt = 10 * (dgF V s i).toInt := by rw [nz_mul (by rw [z10]; omega) (by rw [z10]; omega), z10]
    have p : (10 * dgF V s i + V (s + i)).toInt = 10 * (dgF V s i).toInt + (V (s + i)).toInt := by rw [nz_add (by rw [m]; omega) (by rw [m]; omega), m]
    have q : (10 * dgF V s i + V (s + i) - 48).toInt = 10 * (dgF V s i).toInt + (V (s + i)).toInt - 48 := by rw [nz_sub (by rw [p, z48]; omega) (by rw [p, z48]; omega), p, z48]
    simp only [dgF]
    rw [q]
    have pw : (10 : Int) ^ (i + 1) = 10 * 10 ^ i := by rw [Int.pow_succ, Int.mul_comm]
    rw [pw]
    omega
theorem lp_134n (hn : n ≤ 500) (en : h 64 20 = Int32.ofNat n) (ht : tpM h n) {q1 : Option Value} (hq1 : am_nl q1 = true) {s : Nat} : ∀ (m q : Nat) (h' : am_M), q + m = n → s ≤ q → (∀ j, s ≤ j → j < q → kdC h j = 2) → fr x6t h h' → h' 64 19 = Int32.ofNat q → (q - s ≤ 3 → h' 64 22 = dgF (h 2) s (q - s)) → mx 1 134 123 [some (.ref 64), q1] [] h' (fun v h1 => v = none ∧ fr x6t h h1 ∧ h1 64 19 = Int32.ofNat (tkR (kdC h) n q 2) ∧ h1 64 24 = Int32.ofNat (tkR (kdC h) n q 2) ∧ h1 64 23 = h' 64 23 ∧ h1 64 21 = 2 ∧ (tkR (kdC h) n q 2 - s ≤ 3 → h1 64 22 = dgF (h 2) s (tkR (kdC h) n q 2 - s))) := by
  intro m
  induction m with
  | zero =>
    intro q h' hq hs hall hf e19 e22
    have : q = n := by omega
    subst this
    have er : tkR (kdC h) q q 2 = q := by unfold tkR; rw [Nat.sub_self]; rfl
    rw [er]
    refine .end none (am_set (am_set h' 64 21 2) 64 24 (Int32.ofNat q)) ⟨rfl, (hf.set 64 21 _ rfl).set 64 24 _ rfl, e19, rfl, rfl, rfl, e22⟩ fun d L xs o g Q T hqq => sm_134_123 hq1 ?_
    rw [e19, hf 64 20 rfl, en]
    exact am_iff (by rw [nz_nlt (by omega) (by omega)]; omega) hqq
  | succ m ih =>
    intro q h' hq hs hall hf e19 e22
    have lt : Int32.ofNat q < Int32.ofNat n := by rw [nz_nlt (by omega) (by omega)]; omega
    obtain ⟨t1, t2, t3, t4, t5, t6, t7⟩ := ht q (by omega)
    have e81 : h' 81 q = h 81 q := hf 81 q rfl
    have er : tkR (kdC h) n q 2 = if decide (¬ kdC h q = 2) = true then q else tkR (kdC h) n (q + 1) 2 := by
      unfold tkR
      rw [show n - q = (n - (q + 1)) + 1 by omega, upF]
    by_cases c : kdC h q = 2
    · rw [er, if_neg (by rw [decide_eq_true_eq]; exact fun h => h c)]
      obtain ⟨c1, c2⟩ := t4.2 c
      have ev : h 81 q = h 2 q := t6 (.inr c)
      obtain ⟨x, hx⟩ : ∃ x, x = if ((10 * h' 64 22) + h 81 q) - 48 < 10000 then ((10 * h' 64 22) + h 81 q) - 48 else 10000 := ⟨_, rfl⟩
      have ex : q + 1 - s ≤ 3 → x = dgF (h 2) s (q + 1 - s) := fun hle => by
        have e22' := e22 (by omega)
        have db := dg_b (V := h 2) (s := s) (q + 1 - s) hle (fun j hj => by
          by_cases e : s + j = q
          · rw [e, ← ev]; exact ⟨c1, c2⟩
          · have hk := hall (s + j) (by omega) (by omega)
            obtain ⟨_, _, _, u4, _, u6, _⟩ := ht (s + j) (by omega)
            have := u4.2 hk
            rw [u6 (.inr hk)] at this
            exact this)
        have es : q + 1 - s = (q - s) + 1 := by omega
        rw [es] at db ⊢
        have ed : dgF (h 2) s ((q - s) + 1) = 10 * dgF (h 2) s (q - s) + h 2 q - 48 := by
          simp only [dgF]
          rw [show s + (q - s) = q by omega]
        rw [hx, e22', ev, ← ed]
        have lt : dgF (h 2) s ((q - s) + 1) < 10000 := by
          rw [nz_lt]
          have z : (10000 : Int32).toInt = 10000 := rfl
          rw [z]
          have e3 : (q - s) + 1 = 1 ∨ (q - s) + 1 = 2 ∨ (q - s) + 1 = 3 := by omega
          have := db.2
          rcases e3 with e3 | e3 | e3 <;> rw [e3] at this ⊢ <;> simp at this <;> omega
        rw [if_pos lt]
      refine (ih (q + 1) (am_set (am_set h' 64 22 x) 64 19 (Int32.ofNat (q + 1))) (by omega) (by omega) (fun j j1 j2 => ?_) ((hf.set 64 22 _ rfl).set 64 19 _ rfl) (as_self _ _ _ _) (fun hle => ex hle)).go fun d L xs o g Q T hxx => sm_134_123 hq1 ?_
      · by_cases e : j = q
        · subst e; exact c
        · exact hall j j1 (by omega)
      · rw [e19, hf 64 20 rfl, en]
        refine am_ift lt ⟨ix_n (by omega) (by decide), ?_⟩
        rw [nz_c q (by omega), e81, nz_succ, ← hx]
        exact am_iff c1 (am_iff c2 hxx)
    · rw [er, if_pos (by rw [decide_eq_true_eq]; exact c)]
      refine .end none (am_set (am_set h' 64 21 2) 64 24 (Int32.ofNat q)) ⟨rfl, (hf.set 64 21 _ rfl).set 64 24 _ rfl, e19, rfl, rfl, rfl, e22⟩ fun d L xs o g Q T hqq => sm_134_123 hq1 ?_
      rw [e19, hf 64 20 rfl, en]
      refine am_ift lt ⟨ix_n (by omega) (by decide), ?_⟩
      rw [nz_c q (by omega), e81]
      by_cases c1 : h 81 q < 48
      · exact am_ift c1 hqq
      · exact am_iff c1 (am_ift (Classical.byContradiction fun c2 => c (t4.1 ⟨c1, c2⟩)) hqq)
theorem mx_134 (hn : n ≤ 500) (en : h 64 20 = Int32.ofNat n) (ht : tpM h n) : ∀ (m p : Nat) (h' : am_M), p + m = n → fr x6t h h' → h' 64 19 = Int32.ofNat p → mx 1 134 0 [some (.ref 64), none] [] h' (fun v h1 => v = none ∧ fr x6t h h1 ∧ TM (h 2) (kdC h) n h1 p) := by
  intro m
  induction m with
  | zero =>
    intro p h' hp hf e19
    have : p = n := by omega
    subst this
    have eS := tk_end (K := kdC h) (n := p)
    have eE : tkE (kdC h) p p = p := by unfold tkE; rw [eS, if_neg (Nat.lt_irrefl p)]
    have eK : tkK (kdC h) p p = 0 := by unfold tkK; rw [eS, if_neg (Nat.lt_irrefl p)]
    refine .end none (am_set (am_set (am_set h' 64 23 (Int32.ofNat p)) 64 21 0) 64 24 (Int32.ofNat p)) ⟨rfl, ((hf.set 64 23 _ rfl).set 64 21 _ rfl).set 64 24 _ rfl, ?_⟩ fun d L xs o g Q T hqq => sm_134 ?_
    · unfold TM
      rw [eS, eE, eK]
      exact ⟨e19, rfl, rfl, rfl, fun h => absurd h (by decide)⟩
    · rw [e19, hf 64 20 rfl, en]
      exact am_iff (by rw [nz_nlt (by omega) (by omega)]; omega) hqq
  | succ m ih =>
    intro p h' hp hf e19
    have lt : Int32.ofNat p < Int32.ofNat n := by rw [nz_nlt (by omega) (by omega)]; omega
    obtain ⟨t1, t2, t3, t4, t5, t6, t7⟩ := ht p (by omega)
    have e81 : h' 81 p = h 81 p := hf 81 p rfl
    by_cases c4 : kdC h p = 4
    · obtain ⟨s1, s2, s3⟩ := tk_skip (K := kdC h) (show p < n by omega) c4
      have I := ih (p + 1) (am_set h' 64 19 (Int32.ofNat (p + 1))) (by omega) (hf.set 64 19 _ rfl) (as_self _ _ _ _)
      refine (I.mono ?_).go fun d L xs o g Q T hx => sm_134 ?_
      · rintro v h1 ⟨rfl, g1, g2⟩
        refine ⟨rfl, g1, ?_⟩
        unfold TM vlN at g2 ⊢
        rw [s1, s2, s3]
        exact g2
      · rw [e19, hf 64 20 rfl, en]
        refine am_ift lt ⟨ix_n (by omega) (by decide), ?_⟩
        rw [nz_c p (by omega), e81, nz_succ]
        rcases t1.2 c4 with c | c
        · exact am_ift c hx
        · by_cases c' : h 81 p = 32
          · exact am_ift c' hx
          · exact am_iff c' (am_ift c hx)
    have eS := tk_here (K := kdC h) (show p < n by omega) c4
    have eK : tkK (kdC h) n p = kdC h p := by unfold tkK; rw [eS, if_pos (by omega)]
    have n32 : ¬ h 81 p = 32 := fun c => c4 (t1.1 (.inl c))
    have n10 : ¬ h 81 p = 10 := fun c => c4 (t1.1 (.inr c))
    have head : ∀ {d L : Nat} {xs : Nat → Int32} {o : am_L} {g : Nat} {Q : Option Value → am_M → am_L → Nat → Prop} {T : Nat → am_M → am_L → Nat → Prop}, (if h 81 p < 97 then (if h 81 p < 48 then (if h 81 p = 59 then Q none (am_set (am_set (am_set (am_set h' 64 23 (Int32.ofNat p)) 64 19 (Int32.ofNat (p + 1))) 64 21 3) 64 24 (Int32.ofNat (p + 1))) o g else Q none (am_set (am_set (am_set (am_set h' 64 23 (Int32.ofNat p)) 64 19 (Int32.ofNat (p + 1))) 64 21 4) 64 24 (Int32.ofNat (p + 1))) o g) else (if 57 < h 81 p then (if h 81 p = 59 then Q none (am_set (am_set (am_set (am_set h' 64 23 (Int32.ofNat p)) 64 19 (Int32.ofNat (p + 1))) 64 21 3) 64 24 (Int32.ofNat (p + 1))) o g else Q none (am_set (am_set (am_set (am_set h' 64 23 (Int32.ofNat p)) 64 19 (Int32.ofNat (p + 1))) 64 21 4) 64 24 (Int32.ofNat (p + 1))) o g) else am_X L xs (d + 1) 134 123 [some (.ref 64), some (.int (h 81 p))] [] am_C0 (am_set (am_set h' 64 23 (Int32.ofNat p)) 64 22 0) o g Q T)) else (if 122 < h 81 p then (if h 81 p < 48 then (if h 81 p = 59 then Q none (am_set (am_set (am_set (am_set h' 64 23 (Int32.ofNat p)) 64 19 (Int32.ofNat (p + 1))) 64 21 3) 64 24 (Int32.ofNat (p + 1))) o g else Q none (am_set (am_set (am_set (am_set h' 64 23 (Int32.ofNat p)) 64 19 (Int32.ofNat (p + 1))) 64 21 4) 64 24 (Int32.ofNat (p + 1))) o g) else (if 57 < h 81 p then (if h 81 p = 59 then Q none (am_set (am_set (am_set (am_set h' 64 23 (Int32.ofNat p)) 64 19 (Int32.ofNat (p + 1))) 64 21 3) 64 24 (Int32.ofNat (p + 1))) o g else Q none (am_set (am_set (am_set (am_set h' 64 23 (Int32.ofNat p)) 64 19 (Int32.ofNat (p + 1))) 64 21 4) 64 24 (Int32.ofNat (p + 1))) o g) else am_X L xs (d + 1) 134 123 [some (.ref 64), some (.int (h 81 p))] [] am_C0 (am_set (am_set h' 64 23 (Int32.ofNat p)) 64 22 0) o g Q T)) else am_X L xs (d + 1) 134 76 [some (.ref 64), some (.int (h 81 p))] [] am_C0 (am_set h' 64 23 (Int32.ofNat p)) o g Q T)) → am_X L xs (d + 1) 134 0 [some (.ref 64), none] [] am_C0 h' o g Q T := fun {d L xs o g Q T} H => by
      refine sm_134 ?_
      rw [e19, hf 64 20 rfl, en]
      refine am_ift lt ⟨ix_n (by omega) (by decide), ?_⟩
      rw [nz_c p (by omega), e81, nz_succ]
      exact am_iff n32 (am_iff n10 (am_iff t2 H))
    have tr : ∀ k : Int32, (k = 1 ∨ k = 2) → kdC h p = k → tkR (kdC h) n p k = tkR (kdC h) n (p + 1) k := fun k _ hk => by
      unfold tkR
      rw [show n - p = (n - (p + 1)) + 1 by omega, upF, if_neg (by rw [decide_eq_true_eq]; exact fun h => h hk)]
    by_cases k1 : kdC h p = 1
    · obtain ⟨c1, c2⟩ := t3.2 k1
      have eE : tkE (kdC h) n p = tkR (kdC h) n p 1 := by unfold tkE; rw [eS, if_pos (by omega), if_pos (.inl k1), k1, tr 1 (.inl rfl) k1]
      refine ((lp_134w hn en ht (q1 := some (.int (h 81 p))) rfl (m + 1) p (am_set h' 64 23 (Int32.ofNat p)) (by omega) (hf.set 64 23 _ rfl) e19).mono ?_).go fun d L xs o g Q T hx => head (am_iff c1 (am_iff c2 hx))
      rintro v h1 ⟨rfl, g1, g2, g3, g4, g5⟩
      refine ⟨rfl, g1, ?_⟩
      unfold TM
      rw [eE, eS, eK, k1]
      exact ⟨g2, g3, g4, g5, fun h => absurd h (by decide)⟩
    by_cases k2 : kdC h p = 2
    · obtain ⟨c1, c2⟩ := t4.2 k2
      have eE : tkE (kdC h) n p = tkR (kdC h) n p 2 := by unfold tkE; rw [eS, if_pos (by omega), if_pos (.inr k2), k2, tr 2 (.inr rfl) k2]
      refine ((lp_134n hn en ht (q1 := some (.int (h 81 p))) rfl (s := p) (m + 1) p (am_set (am_set h' 64 23 (Int32.ofNat p)) 64 22 0) (by omega) (Nat.le_refl _) (fun j j1 j2 => by omega) ((hf.set 64 23 _ rfl).set 64 22 _ rfl) e19 (fun _ => by rw [Nat.sub_self]; rfl)).mono ?_).go fun d L xs o g Q T hx => head ?_
      · rintro v h1 ⟨rfl, g1, g2, g3, g4, g5, g6⟩
        refine ⟨rfl, g1, ?_⟩
        unfold TM vlN
        rw [eE, eS, eK, k2]
        refine ⟨g2, g3, g4, g5, fun _ hle => ?_⟩
        rw [g6 hle, Nat.min_eq_left hle]
      · by_cases c3 : h 81 p < 97
        · exact am_ift c3 (am_iff c1 (am_iff c2 hx))
        · exact am_iff c3 (am_ift (Classical.byContradiction fun q => k1 (t3.1 ⟨c3, q⟩)) (am_iff c1 (am_iff c2 hx)))
    -- a sign, or none
    have eE : tkE (kdC h) n p = p + 1 := by unfold tkE; rw [eS, if_pos (by omega), if_neg (fun c => c.elim k1 k2)]
    have one : ∀ z : Int32, z = mkM (kdC h p) → fr x6t h (am_set (am_set (am_set (am_set h' 64 23 (Int32.ofNat p)) 64 19 (Int32.ofNat (p + 1))) 64 21 z) 64 24 (Int32.ofNat (p + 1))) ∧ TM (h 2) (kdC h) n (am_set (am_set (am_set (am_set h' 64 23 (Int32.ofNat p)) 64 19 (Int32.ofNat (p + 1))) 64 21 z) 64 24 (Int32.ofNat (p + 1))) p := fun z hz => by
      refine ⟨(((hf.set 64 23 _ rfl).set 64 19 _ rfl).set 64 21 _ rfl).set 64 24 _ rfl, ?_⟩
      unfold TM
      rw [eE, eS, eK]
      exact ⟨rfl, rfl, rfl, hz, fun h => absurd h k2⟩
    have pick : ∀ {A B : Prop} {C D : Prop}, ((h 81 p = 59 → A) → (¬ h 81 p = 59 → B) → (if h 81 p < 97 then (if h 81 p < 48 then (if h 81 p = 59 then A else B) else (if 57 < h 81 p then (if h 81 p = 59 then A else B) else C)) else (if 122 < h 81 p then (if h 81 p < 48 then (if h 81 p = 59 then A else B) else (if 57 < h 81 p then (if h 81 p = 59 then A else B) else C)) else D))) := fun {A B C D} ha hb => by
      have AB : (if h 81 p = 59 then A else B) := by
        by_cases c : h 81 p = 59
        · exact am_ift c (ha c)
        · exact am_iff c (hb c)
      have dig : ¬ h 81 p < 48 → 57 < h 81 p := fun q => Classical.byContradiction fun r => k2 (t4.1 ⟨q, r⟩)
      have lo : (if h 81 p < 48 then (if h 81 p = 59 then A else B) else (if 57 < h 81 p then (if h 81 p = 59 then A else B) else C)) := by
        by_cases c : h 81 p < 48
        · exact am_ift c AB
        · exact am_iff c (am_ift (dig c) AB)
      by_cases c : h 81 p < 97
      · exact am_ift c lo
      · exact am_iff c (am_ift (Classical.byContradiction fun r => k1 (t3.1 ⟨c, r⟩)) lo)
    by_cases k3 : h 81 p = 59
    · have e3 : kdC h p = 3 := t5.1 k3
      obtain ⟨o1, o2⟩ := one 3 (by rw [e3]; rfl)
      exact .end none _ ⟨rfl, o1, o2⟩ fun d L xs o g Q T hq => head (pick (fun _ => hq) (fun c => absurd k3 c))
    · have e5 : kdC h p = 5 := by
        rcases t7 with t | t | t | t | t
        · exact absurd t k1
        · exact absurd t k2
        · exact absurd (t5.2 t) k3
        · exact absurd t c4
        · exact t
      obtain ⟨o1, o2⟩ := one 4 (by rw [e5]; rfl)
      exact .end none _ ⟨rfl, o1, o2⟩ fun d L xs o g Q T hq => head (pick (fun c => absurd c k3) (fun _ => hq))
end
