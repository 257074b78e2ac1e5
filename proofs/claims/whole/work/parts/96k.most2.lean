/-! ===== most ===== -/
def xJ (k j : Nat) : Bool := (Nat.beq k 62 || (Nat.beq k 63 || (Nat.beq k 93 || (Nat.beq k 94 || ((Nat.beq k 0 && Nat.beq j 11) || (Nat.beq k 64 && Nat.beq j 45)))))) || xI k j
theorem xI_J {k j : Nat} (h : xJ k j = false) : xI k j = false := by
  unfold xJ at h
  rw [Bool.or_eq_false_iff] at h
  exact h.2
theorem Iv_frR {h h1 : am_M} (hI : Iv h) (f : fr xJ h h1) (hR : iv_R h1) : Iv h1 := by
  have e2 := f.cell 2 (fun _ => rfl)
  have e4 := f.cell 4 (fun _ => rfl)
  have e5 := f.cell 5 (fun _ => rfl)
  have e6 := f.cell 6 (fun _ => rfl)
  have e7 := f.cell 7 (fun _ => rfl)
  have e8 := f.cell 8 (fun _ => rfl)
  have e9 := f.cell 9 (fun _ => rfl)
  have e10 := f.cell 10 (fun _ => rfl)
  have e11 := f.cell 11 (fun _ => rfl)
  have e24 := f.cell 24 (fun _ => rfl)
  have e25 := f.cell 25 (fun _ => rfl)
  have e26 := f.cell 26 (fun _ => rfl)
  have e27 := f.cell 27 (fun _ => rfl)
  have e28 := f.cell 28 (fun _ => rfl)
  have e29 := f.cell 29 (fun _ => rfl)
  have e30 := f.cell 30 (fun _ => rfl)
  have e31 := f.cell 31 (fun _ => rfl)
  have e32 := f.cell 32 (fun _ => rfl)
  have e33 := f.cell 33 (fun _ => rfl)
  have e35 := f.cell 35 (fun _ => rfl)
  have e36 := f.cell 36 (fun _ => rfl)
  have e37 := f.cell 37 (fun _ => rfl)
  have e38 := f.cell 38 (fun _ => rfl)
  have e39 := f.cell 39 (fun _ => rfl)
  have e40 := f.cell 40 (fun _ => rfl)
  have e41 := f.cell 41 (fun _ => rfl)
  have e42 := f.cell 42 (fun _ => rfl)
  have e43 := f.cell 43 (fun _ => rfl)
  have e44 := f.cell 44 (fun _ => rfl)
  have e67 := f.cell 67 (fun _ => rfl)
  have e68 := f.cell 68 (fun _ => rfl)
  have e69 := f.cell 69 (fun _ => rfl)
  have e70 := f.cell 70 (fun _ => rfl)
  have e71 := f.cell 71 (fun _ => rfl)
  have e72 := f.cell 72 (fun _ => rfl)
  have e73 := f.cell 73 (fun _ => rfl)
  have e74 := f.cell 74 (fun _ => rfl)
  have e75 := f.cell 75 (fun _ => rfl)
  have e76 := f.cell 76 (fun _ => rfl)
  have e77 := f.cell 77 (fun _ => rfl)
  have e78 := f.cell 78 (fun _ => rfl)
  have e79 := f.cell 79 (fun _ => rfl)
  have e80 := f.cell 80 (fun _ => rfl)
  have e81 := f.cell 81 (fun _ => rfl)
  have e82 := f.cell 82 (fun _ => rfl)
  have e83 := f.cell 83 (fun _ => rfl)
  have e84 := f.cell 84 (fun _ => rfl)
  have e85 := f.cell 85 (fun _ => rfl)
  have e86 := f.cell 86 (fun _ => rfl)
  have e87 := f.cell 87 (fun _ => rfl)
  have e98 := f.cell 98 (fun _ => rfl)
  have e99 := f.cell 99 (fun _ => rfl)
  have e100 := f.cell 100 (fun _ => rfl)
  have e101 := f.cell 101 (fun _ => rfl)
  have e102 := f.cell 102 (fun _ => rfl)
  have e103 := f.cell 103 (fun _ => rfl)
  have e104 := f.cell 104 (fun _ => rfl)
  have e105 := f.cell 105 (fun _ => rfl)
  have e106 := f.cell 106 (fun _ => rfl)
  have e107 := f.cell 107 (fun _ => rfl)
  have s0_5 := f 0 5 rfl
  have s1_0 := f 1 0 rfl
  have s1_1 := f 1 1 rfl
  have s3_0 := f 3 0 rfl
  have s3_1 := f 3 1 rfl
  have s3_2 := f 3 2 rfl
  have s12_0 := f 12 0 rfl
  have s12_1 := f 12 1 rfl
  have s12_2 := f 12 2 rfl
  have s12_3 := f 12 3 rfl
  have s23_0 := f 23 0 rfl
  have s34_0 := f 34 0 rfl
  have s64_18 := f 64 18 rfl
  have s64_27 := f 64 27 rfl
  have s64_28 := f 64 28 rfl
  have s64_51 := f 64 51 rfl
  have s64_52 := f 64 52 rfl
  obtain ⟨a1, a2, a3, a4, a5, a6⟩ := hI
  refine ⟨?_, ?_, ?_, ?_, hR, ?_⟩
  · unfold iv_T at a1 ⊢; simp only [e2, e4, e5, e6, e7, e8, e9, e10, e11, e24, e25, e26, e27, e28, e29, e30, e31, e32, e33, e35, e36, e37, e38, e39, e40, e41, e42, e43, e44, e67, e68, e69, e70, e71, e72, e73, e74, e75, e76, e77, e78, e79, e80, e81, e82, e83, e84, e85, e86, e87, e98, e99, e100, e101, e102, e103, e104, e105, e106, e107, s0_5, s1_0, s1_1, s3_0, s3_1, s3_2, s12_0, s12_1, s12_2, s12_3, s23_0, s34_0, s64_18, s64_27, s64_28, s64_51, s64_52]; exact a1
  · unfold iv_P iv_S iv_B at a2 ⊢; simp only [e2, e4, e5, e6, e7, e8, e9, e10, e11, e24, e25, e26, e27, e28, e29, e30, e31, e32, e33, e35, e36, e37, e38, e39, e40, e41, e42, e43, e44, e67, e68, e69, e70, e71, e72, e73, e74, e75, e76, e77, e78, e79, e80, e81, e82, e83, e84, e85, e86, e87, e98, e99, e100, e101, e102, e103, e104, e105, e106, e107, s0_5, s1_0, s1_1, s3_0, s3_1, s3_2, s12_0, s12_1, s12_2, s12_3, s23_0, s34_0, s64_18, s64_27, s64_28, s64_51, s64_52]; exact a2
  · unfold iv_N at a3 ⊢; simp only [e2, e4, e5, e6, e7, e8, e9, e10, e11, e24, e25, e26, e27, e28, e29, e30, e31, e32, e33, e35, e36, e37, e38, e39, e40, e41, e42, e43, e44, e67, e68, e69, e70, e71, e72, e73, e74, e75, e76, e77, e78, e79, e80, e81, e82, e83, e84, e85, e86, e87, e98, e99, e100, e101, e102, e103, e104, e105, e106, e107, s0_5, s1_0, s1_1, s3_0, s3_1, s3_2, s12_0, s12_1, s12_2, s12_3, s23_0, s34_0, s64_18, s64_27, s64_28, s64_51, s64_52]; exact a3
  · unfold iv_I at a4 ⊢; simp only [e2, e4, e5, e6, e7, e8, e9, e10, e11, e24, e25, e26, e27, e28, e29, e30, e31, e32, e33, e35, e36, e37, e38, e39, e40, e41, e42, e43, e44, e67, e68, e69, e70, e71, e72, e73, e74, e75, e76, e77, e78, e79, e80, e81, e82, e83, e84, e85, e86, e87, e98, e99, e100, e101, e102, e103, e104, e105, e106, e107, s0_5, s1_0, s1_1, s3_0, s3_1, s3_2, s12_0, s12_1, s12_2, s12_3, s23_0, s34_0, s64_18, s64_27, s64_28, s64_51, s64_52]; exact a4
  · unfold iv_K at a6 ⊢; simp only [e2, e4, e5, e6, e7, e8, e9, e10, e11, e24, e25, e26, e27, e28, e29, e30, e31, e32, e33, e35, e36, e37, e38, e39, e40, e41, e42, e43, e44, e67, e68, e69, e70, e71, e72, e73, e74, e75, e76, e77, e78, e79, e80, e81, e82, e83, e84, e85, e86, e87, e98, e99, e100, e101, e102, e103, e104, e105, e106, e107, s0_5, s1_0, s1_1, s3_0, s3_1, s3_2, s12_0, s12_1, s12_2, s12_3, s23_0, s34_0, s64_18, s64_27, s64_28, s64_51, s64_52]; exact a6
theorem Ip_frJ {h h1 : am_M} (hI : Ip h) (f : fr xJ h h1) : Ip h1 := by
  have e2 := f.cell 2 (fun _ => rfl)
  have e4 := f.cell 4 (fun _ => rfl)
  have e5 := f.cell 5 (fun _ => rfl)
  have e6 := f.cell 6 (fun _ => rfl)
  have e7 := f.cell 7 (fun _ => rfl)
  have e8 := f.cell 8 (fun _ => rfl)
  have e9 := f.cell 9 (fun _ => rfl)
  have e10 := f.cell 10 (fun _ => rfl)
  have e11 := f.cell 11 (fun _ => rfl)
  have e24 := f.cell 24 (fun _ => rfl)
  have e25 := f.cell 25 (fun _ => rfl)
  have e26 := f.cell 26 (fun _ => rfl)
  have e27 := f.cell 27 (fun _ => rfl)
  have e28 := f.cell 28 (fun _ => rfl)
  have e29 := f.cell 29 (fun _ => rfl)
  have e30 := f.cell 30 (fun _ => rfl)
  have e31 := f.cell 31 (fun _ => rfl)
  have e32 := f.cell 32 (fun _ => rfl)
  have e33 := f.cell 33 (fun _ => rfl)
  have e35 := f.cell 35 (fun _ => rfl)
  have e36 := f.cell 36 (fun _ => rfl)
  have e37 := f.cell 37 (fun _ => rfl)
  have e38 := f.cell 38 (fun _ => rfl)
  have e39 := f.cell 39 (fun _ => rfl)
  have e40 := f.cell 40 (fun _ => rfl)
  have e41 := f.cell 41 (fun _ => rfl)
  have e42 := f.cell 42 (fun _ => rfl)
  have e43 := f.cell 43 (fun _ => rfl)
  have e44 := f.cell 44 (fun _ => rfl)
  have e67 := f.cell 67 (fun _ => rfl)
  have e68 := f.cell 68 (fun _ => rfl)
  have e69 := f.cell 69 (fun _ => rfl)
  have e70 := f.cell 70 (fun _ => rfl)
  have e71 := f.cell 71 (fun _ => rfl)
  have e72 := f.cell 72 (fun _ => rfl)
  have e73 := f.cell 73 (fun _ => rfl)
  have e74 := f.cell 74 (fun _ => rfl)
  have e75 := f.cell 75 (fun _ => rfl)
  have e76 := f.cell 76 (fun _ => rfl)
  have e77 := f.cell 77 (fun _ => rfl)
  have e78 := f.cell 78 (fun _ => rfl)
  have e79 := f.cell 79 (fun _ => rfl)
  have e80 := f.cell 80 (fun _ => rfl)
  have e81 := f.cell 81 (fun _ => rfl)
  have e82 := f.cell 82 (fun _ => rfl)
  have e83 := f.cell 83 (fun _ => rfl)
  have e84 := f.cell 84 (fun _ => rfl)
  have e85 := f.cell 85 (fun _ => rfl)
  have e86 := f.cell 86 (fun _ => rfl)
  have e87 := f.cell 87 (fun _ => rfl)
  have e98 := f.cell 98 (fun _ => rfl)
  have e99 := f.cell 99 (fun _ => rfl)
  have e100 := f.cell 100 (fun _ => rfl)
  have e101 := f.cell 101 (fun _ => rfl)
  have e102 := f.cell 102 (fun _ => rfl)
  have e103 := f.cell 103 (fun _ => rfl)
  have e104 := f.cell 104 (fun _ => rfl)
  have e105 := f.cell 105 (fun _ => rfl)
  have e106 := f.cell 106 (fun _ => rfl)
  have e107 := f.cell 107 (fun _ => rfl)
  have s0_5 := f 0 5 rfl
  have s1_0 := f 1 0 rfl
  have s1_1 := f 1 1 rfl
  have s3_0 := f 3 0 rfl
  have s3_1 := f 3 1 rfl
  have s3_2 := f 3 2 rfl
  have s12_0 := f 12 0 rfl
  have s12_1 := f 12 1 rfl
  have s12_2 := f 12 2 rfl
  have s12_3 := f 12 3 rfl
  have s23_0 := f 23 0 rfl
  have s34_0 := f 34 0 rfl
  have s64_18 := f 64 18 rfl
  have s64_27 := f 64 27 rfl
  have s64_28 := f 64 28 rfl
  have s64_51 := f 64 51 rfl
  have s64_52 := f 64 52 rfl
  obtain ⟨a1, a2, a3, a4⟩ := hI
  refine ⟨?_, ?_, ?_, trivial⟩
  · unfold iv_T at a1 ⊢; simp only [e2, e4, e5, e6, e7, e8, e9, e10, e11, e24, e25, e26, e27, e28, e29, e30, e31, e32, e33, e35, e36, e37, e38, e39, e40, e41, e42, e43, e44, e67, e68, e69, e70, e71, e72, e73, e74, e75, e76, e77, e78, e79, e80, e81, e82, e83, e84, e85, e86, e87, e98, e99, e100, e101, e102, e103, e104, e105, e106, e107, s0_5, s1_0, s1_1, s3_0, s3_1, s3_2, s12_0, s12_1, s12_2, s12_3, s23_0, s34_0, s64_18, s64_27, s64_28, s64_51, s64_52]; exact a1
  · unfold iv_P iv_S iv_B at a2 ⊢; simp only [e2, e4, e5, e6, e7, e8, e9, e10, e11, e24, e25, e26, e27, e28, e29, e30, e31, e32, e33, e35, e36, e37, e38, e39, e40, e41, e42, e43, e44, e67, e68, e69, e70, e71, e72, e73, e74, e75, e76, e77, e78, e79, e80, e81, e82, e83, e84, e85, e86, e87, e98, e99, e100, e101, e102, e103, e104, e105, e106, e107, s0_5, s1_0, s1_1, s3_0, s3_1, s3_2, s12_0, s12_1, s12_2, s12_3, s23_0, s34_0, s64_18, s64_27, s64_28, s64_51, s64_52]; exact a2
  · unfold iv_N at a3 ⊢; simp only [e2, e4, e5, e6, e7, e8, e9, e10, e11, e24, e25, e26, e27, e28, e29, e30, e31, e32, e33, e35, e36, e37, e38, e39, e40, e41, e42, e43, e44, e67, e68, e69, e70, e71, e72, e73, e74, e75, e76, e77, e78, e79, e80, e81, e82, e83, e84, e85, e86, e87, e98, e99, e100, e101, e102, e103, e104, e105, e106, e107, s0_5, s1_0, s1_1, s3_0, s3_1, s3_2, s12_0, s12_1, s12_2, s12_3, s23_0, s34_0, s64_18, s64_27, s64_28, s64_51, s64_52]; exact a3
theorem neK_frJ {h h1 : am_M} (f : fr xJ h h1) (p s but : Int32) (M : Nat) : neK h1 p s but M = neK h p s but M := by
  have e4 := f.cell 4 (fun _ => rfl)
  have e5 := f.cell 5 (fun _ => rfl)
  have e8 := f.cell 8 (fun _ => rfl)
  have e24 := f.cell 24 (fun _ => rfl)
  have e26 := f.cell 26 (fun _ => rfl)
  have e27 := f.cell 27 (fun _ => rfl)
  have e28 := f.cell 28 (fun _ => rfl)
  have e30 := f.cell 30 (fun _ => rfl)
  have e12 := f 12 1 rfl
  have es : spK h1 p s but M = spK h p s but M := by
    unfold spK
    have : tk_kn h1 p s but = tk_kn h p s but := by
      funext k
      unfold tk_kn
      rw [e24, e26]
    rw [this, e4, e5, e27, e28]
  unfold neK
  rw [es, e8, e30, e12]
theorem wtF_frJ {h h1 : am_M} (f : fr xJ h h1) (day : Int32) : wtF h1 day = wtF h day := by
  funext s b x
  unfold wtF wtr
  rw [f.cell 7 (fun _ => rfl), f.cell 9 (fun _ => rfl), f.cell 10 (fun _ => rfl), f.cell 11 (fun _ => rfl), f.cell 6 (fun _ => rfl), f 12 0 rfl]
def xR (k _ : Nat) : Bool := Nat.beq k 62 || Nat.beq k 63
def xQ (k _ : Nat) : Bool := Nat.beq k 93 || Nat.beq k 94
theorem lp_84 {h : am_M} {z : Int32} : ∀ (r k : Nat) (q1 q2 : Option Value) (h' : am_M), am_nl q1 = true → am_nl q2 = true → k + r = 5 → fr xR h h' → (∀ j, j < k → h' 62 j = h 47 j ∧ h' 63 j = if h 47 j = -1 then -1 else h 48 j) → mx 0 84 27 [some (.ref 0), q1, q2, some (.int z), some (.int (Int32.ofNat k))] [] h' (fun v h1 => v = some (.int z) ∧ ∃ h2, h1 = am_set h2 0 11 1 ∧ fr xR h h2 ∧ ∀ j, j < 5 → h2 62 j = h 47 j ∧ h2 63 j = if h 47 j = -1 then -1 else h 48 j) := by
  intro r
  induction r with
  | zero =>
    intro k q1 q2 h' hq1 hq2 hk hf hd
    have : k = 5 := by omega
    subst this
    exact .end (some (.int z)) (am_set h' 0 11 1) ⟨rfl, h', rfl, hf, hd⟩ fun d L xs o g Q T hq => sm_84_27 hq1 hq2 (am_iff (by decide) hq)
  | succ r ih =>
    intro k q1 q2 h' hq1 hq2 hk hf hd
    have lt : Int32.ofNat k < 5 := by
      show Int32.ofNat k < Int32.ofNat 5
      rw [nz_nlt (by omega) (by decide)]; omega
    have nx : ∀ x, (x = if h 47 k = -1 then -1 else h 48 k) → mx 0 84 27 [some (.ref 0), q1, q2, some (.int z), some (.int (Int32.ofNat (k + 1)))] [] (am_set (am_set h' 62 k (h 47 k)) 63 k x) (fun v h1 => v = some (.int z) ∧ ∃ h2, h1 = am_set h2 0 11 1 ∧ fr xR h h2 ∧ ∀ j, j < 5 → h2 62 j = h 47 j ∧ h2 63 j = if h 47 j = -1 then -1 else h 48 j) := fun x hx => ih (k + 1) q1 q2 _ hq1 hq2 (by omega) ((hf.set 62 k _ rfl).set 63 k _ rfl) (fun j hj => by
      by_cases e : j = k
      · subst e
        rw [as_cell _ _ _ (by decide), as_self, as_self]
        exact ⟨rfl, hx⟩
      · rw [as_cell _ _ _ (by decide), as_slot _ _ _ e, as_slot _ _ _ e, as_cell _ _ _ (by decide)]
        exact hd j (by omega))
    by_cases c : h 47 k = -1
    · refine (nx (-1) (by rw [if_pos c])).go fun d L xs o g Q T hx => sm_84_27 hq1 hq2 (am_ift lt ⟨ix_n (by omega) (by decide), ?_⟩)
      rw [nz_c k (by omega), hf 47 k rfl, nz_succ]
      exact am_ift c hx
    · refine (nx (h 48 k) (by rw [if_neg c])).go fun d L xs o g Q T hx => sm_84_27 hq1 hq2 (am_ift lt ⟨ix_n (by omega) (by decide), ?_⟩)
      rw [nz_c k (by omega), hf 47 k rfl, hf 48 k rfl, nz_succ]
      exact am_iff c hx
theorem lp_180 {h : am_M} {z : Int32} {n : Nat} (hn : n ≤ 5) (en : h 68 0 = Int32.ofNat n) : ∀ (r k : Nat) (q1 q2 : Option Value) (h' : am_M), am_nl q1 = true → am_nl q2 = true → k + r = n → fr xQ h h' → (∀ j, j < k → h' 93 j = (if h 91 j = h 68 2 then -1 else h 91 j) ∧ h' 94 j = h 92 j) → mx 0 180 49 [some (.ref 64), q1, q2, some (.int z), some (.int (Int32.ofNat k))] [] h' (fun v h1 => v = some (.int z) ∧ fr xQ h h1 ∧ ∀ j, j < n → h1 93 j = (if h 91 j = h 68 2 then -1 else h 91 j) ∧ h1 94 j = h 92 j) := by
  intro r
  induction r with
  | zero =>
    intro k q1 q2 h' hq1 hq2 hk hf hd
    have : k = n := by omega
    subst this
    refine .end (some (.int z)) h' ⟨rfl, hf, hd⟩ fun d L xs o g Q T hq => sm_180_49 hq1 hq2 ?_
    rw [hf 68 0 rfl, en]
    exact am_iff (by rw [nz_nlt (by omega) (by omega)]; omega) hq
  | succ r ih =>
    intro k q1 q2 h' hq1 hq2 hk hf hd
    have lt : Int32.ofNat k < Int32.ofNat n := by rw [nz_nlt (by omega) (by omega)]; omega
    have nx : ∀ x, (x = if h 91 k = h 68 2 then -1 else h 91 k) → mx 0 180 49 [some (.ref 64), q1, q2, some (.int z), some (.int (Int32.ofNat (k + 1)))] [] (am_set (am_set h' 93 k x) 94 k (h 92 k)) (fun v h1 => v = some (.int z) ∧ fr xQ h h1 ∧ ∀ j, j < n → h1 93 j = (if h 91 j = h 68 2 then -1 else h 91 j) ∧ h1 94 j = h 92 j) := fun x hx => ih (k + 1) q1 q2 _ hq1 hq2 (by omega) ((hf.set 93 k _ rfl).set 94 k _ rfl) (fun j hj => by
      by_cases e : j = k
      · subst e
        rw [as_cell _ _ _ (by decide), as_self, as_self]
        exact ⟨hx, rfl⟩
      · rw [as_cell _ _ _ (by decide), as_slot _ _ _ e, as_slot _ _ _ e, as_cell _ _ _ (by decide)]
        exact hd j (by omega))
    by_cases c : h 91 k = h 68 2
    · refine (nx (-1) (by rw [if_pos c])).go fun d L xs o g Q T hx => sm_180_49 hq1 hq2 ?_
      rw [hf 68 0 rfl, en]
      refine am_ift lt ⟨ix_n (by omega) (by decide), ?_⟩
      rw [nz_c k (by omega), hf 91 k rfl, hf 68 2 rfl, hf 92 k rfl, nz_succ]
      exact am_ift c hx
    · refine (nx (h 91 k) (by rw [if_neg c])).go fun d L xs o g Q T hx => sm_180_49 hq1 hq2 ?_
      rw [hf 68 0 rfl, en]
      refine am_ift lt ⟨ix_n (by omega) (by decide), ?_⟩
      rw [nz_c k (by omega), hf 91 k rfl, hf 68 2 rfl, hf 92 k rfl, nz_succ]
      exact am_iff c hx
theorem sr_pos {wt : Nat → Nat → Nat → Int32} {nd : Nat → Int32} {ar sy : Nat → Nat} {B W n : Nat} {a0 : Nat → Nat} : 1 ≤ (srR wt nd ar sy B W n (0, a0)).1 ∧ plE (plFt wt nd) (plOv ar sy) B W n (srR wt nd ar sy B W n (0, a0)).2 = true := by
  have h1 : 1 ≤ (srR wt nd ar sy B W n (0, a0)).1 := by
    unfold srR
    rw [plG_N]
    have := plN_one (ok := okF wt nd W) (fe := plE (plFt wt nd) (plOv ar sy) B W n) (B := B) (n := n) (fun a h => plE_none h) n 0 0 (fun _ => 0) (by omega) (fun o ho => by omega)
    omega
  exact ⟨h1, plG_fe n 0 0 (fun _ => 0) (0, a0) (fun h => absurd h (Nat.lt_irrefl 0)) h1⟩
theorem fr.or {X Y : Nat → Nat → Bool} {h0 h : am_M} (a : fr X h0 h) (hX : ∀ k j, X k j = true → Y k j = true) : fr Y h0 h := fun k j hk => a k j (by
  cases hc : X k j with
  | false => rfl
  | true => rw [hX k j hc] at hk; cases hk)
theorem xR_J {k j : Nat} (h : xR k j = true) : xJ k j = true := by
  unfold xR at h
  simp only [Bool.or_eq_true, Nat.beq_eq] at h
  rcases h with h | h <;> subst h <;> rfl
theorem xQ_J {k j : Nat} (h : xQ k j = true) : xJ k j = true := by
  unfold xQ at h
  simp only [Bool.or_eq_true, Nat.beq_eq] at h
  rcases h with h | h <;> subst h <;> rfl
theorem xB_J {k j : Nat} (h : xB k j = true) : xJ k j = true := by
  unfold xB at h
  simp only [Bool.or_eq_true, Bool.and_eq_true, Nat.beq_eq] at h
  rcases h with h | h | h | h | ⟨h, h'⟩
  · subst h; rfl
  · subst h; rfl
  · subst h; rfl
  · subst h; rfl
  · subst h h'; rfl
theorem x48_J {k j : Nat} (h : x48 k j = true) : xJ k j = true := by
  unfold x48 at h
  rw [Nat.beq_eq] at h
  subst h
  rfl
theorem op_most {h : am_M} (hI : Iv h) (p y : Int32) : opR 84 [some (.ref 0), some (.int p), some (.int y), none, none] 180 [some (.ref 64), some (.int p), some (.int y), none, none] cdN h := by
  have hI' := hI
  obtain ⟨hT, hP, ⟨N, hN, e1, e2, hE, hG, hJ, hS⟩, hII, hR, hK⟩ := hI'
  obtain ⟨p0, p1, p2, p3, p4, p5, p6⟩ := hP.1
  obtain ⟨b0, b1, b2, b3, b4, b5, b6, b7, b8, b9, b10, b11, b12, b13⟩ := hP.2.1
  have b3' : ¬ 5 < h 3 1 := by grind
  by_cases a1 : p < 0
  · exact op_fail hI (fun d L xs o g Q T hq => sm_84 (am_ift a1 (hq))) (fun d L xs o g Q T hq => sm_180 (am_ift a1 (hq)))
  by_cases a2 : p < h 3 1
  rotate_left
  · have n2 : h 68 1 - 1 < p := by rw [p1]; exact rq5n b2 b3' a2
    exact op_fail hI (fun d L xs o g Q T hq => sm_84 (am_iff a1 (am_iff a2 (hq)))) (fun d L xs o g Q T hq => sm_180 (am_iff a1 (am_ift n2 (hq))))
  have n2 : ¬ h 68 1 - 1 < p := by rw [p1]; exact rq5 b2 b3' a2
  by_cases a3 : y < 0
  · exact op_fail hI (fun d L xs o g Q T hq => sm_84 (am_iff a1 (am_ift a2 (am_ift a3 (hq))))) (fun d L xs o g Q T hq => sm_180 (am_iff a1 (am_iff n2 (am_ift a3 (hq)))))
  by_cases a4 : 9999 < y
  · exact op_fail hI (fun d L xs o g Q T hq => sm_84 (am_iff a1 (am_ift a2 (am_iff a3 (am_ift a4 (hq)))))) (fun d L xs o g Q T hq => sm_180 (am_iff a1 (am_iff n2 (am_iff a3 (am_ift a4 (hq))))))
  obtain ⟨n, B, W, hc⟩ := plc_of hI
  have hc' := hc
  obtain ⟨⟨hn5, hB5, hW2⟩, ⟨en, eB, eW⟩, hA⟩ := hc'
  obtain ⟨v1, h1, ⟨rfl, q1, q2, q3, q4, q5, q6, q7, q8⟩, G1⟩ := mx_85 (day := y) hI hc (p := p) hN e1 (fun _ => 0)
  obtain ⟨c1, fe⟩ := sr_pos (wt := wtF h y) (nd := fun s => neK h p (Int32.ofNat s) (-1) N) (ar := arN h) (sy := syN h) (B := B) (W := W) (n := n) (a0 := fun _ => 0)
  obtain ⟨st, hst⟩ : ∃ st, st = srR (wtF h y) (fun s => neK h p (Int32.ofNat s) (-1) N) (arN h) (syN h) B W n (0, fun _ => 0) := ⟨_, rfl⟩
  rw [← hst] at c1 fe q5 q7 q8 G1
  obtain ⟨wM, hwM⟩ : ∃ wM, plM (plFt (wtF h y) (fun s => neK h p (Int32.ofNat s) (-1) N)) (plOv (arN h) (syN h)) B W n st.2 (fun _ => 0) = some wM := by
    cases hm : plM (plFt (wtF h y) (fun s => neK h p (Int32.ofNat s) (-1) N)) (plOv (arN h) (syN h)) B W n st.2 (fun _ => 0) with
    | none => unfold plE at fe; rw [hm] at fe; cases fe
    | some w => exact ⟨w, rfl⟩
  have ewO : wtO (plFt (wtF h y) (fun s => neK h p (Int32.ofNat s) (-1) N)) (plOv (arN h) (syN h)) B W n st.2 = wM := by unfold wtO; rw [hwM]; rfl
  obtain ⟨v2, h2, ⟨rfl, f2, w2⟩, G2⟩ := mx_93 (h := h1) (hc.fr q1 (fun _ => rfl) rfl (fun _ => rfl) (fun _ => rfl)) q2 q3 (q8 c1) hwM
  obtain ⟨v3, h3', ⟨rfl, h3, rfl, f3, r3⟩, G3⟩ := lp_84 (h := h2) (z := Int32.ofNat st.1 - 1) 5 0 (some (.int p)) (some (.int y)) h2 rfl rfl (by omega) (fr.refl _ _) (fun j hj => by omega)
  -- what the class leaves
  have F1 : fr xJ h h1 := q1.mono fun k j hk => xP_I (xI_J hk)
  have F2 : fr xJ h h2 := F1.trans (f2.or fun _ _ hk => x48_J hk)
  have F3 : fr xJ h (am_set (am_set h3 0 11 1) 64 3 0) := ((F2.trans (f3.or fun _ _ hk => xR_J hk)).set 0 11 _ rfl).set 64 3 _ rfl
  have e681 : (am_set h3 0 11 1) 68 1 = h 68 1 := F3 68 1 rfl
  have row : ∀ j, j < n → h3 62 j = enB B (st.2 j) ∧ h3 63 j = if st.2 j < B then Int32.ofNat (wM j) else -1 := fun j hj => by
    obtain ⟨a1, a2⟩ := r3 j (by omega)
    have e47 : h2 47 j = enB B (st.2 j) := by rw [f2 47 j rfl]; exact q8 c1 j hj
    refine ⟨a1.trans e47, ?_⟩
    rw [a2, e47]
    unfold enB
    by_cases c : st.2 j < B
    · rw [if_pos c, if_pos c, if_neg (fun e => by have := nat_n0 (k := st.2 j) (by omega); rw [e] at this; exact this (by decide))]
      exact w2 j hj c
    · rw [if_neg c, if_neg c, if_pos rfl]
  -- the model
  have hIp : Ip (am_set (am_set h3 0 11 1) 64 3 0) := Ip_frJ hI.ip F3
  have hcm : plc (am_set (am_set h3 0 11 1) 64 3 0) n B W (arN (am_set (am_set h3 0 11 1) 64 3 0)) (syN (am_set (am_set h3 0 11 1) 64 3 0)) := by
    have ea : arN (am_set (am_set h3 0 11 1) 64 3 0) = arN h := by funext t; unfold arN; rw [F3 6 t rfl]
    have es : syN (am_set (am_set h3 0 11 1) 64 3 0) = syN h := by funext t; unfold syN; rw [F3 7 t rfl]
    rw [ea, es]
    exact hc.fr F3 (fun _ => rfl) rfl (fun _ => rfl) (fun _ => rfl)
  obtain ⟨v4, h4, ⟨rfl, f4, m4⟩, G4⟩ := mp_181 hIp hcm a3 a4 (p := p) hN (by rw [F3 23 0 rfl]; exact e1)
  have en4 : (fun s => neK (am_set (am_set h3 0 11 1) 64 3 0) p (Int32.ofNat s) (-1) N) = fun s => neK h p (Int32.ofNat s) (-1) N := by
    funext s
    exact neK_frJ F3 p (Int32.ofNat s) (-1) N
  rw [wtF_frJ F3, en4] at m4
  have hmm := mlc_ofp hIp hcm
  have ea : arN (am_set (am_set h3 0 11 1) 64 3 0) = arN h := by funext t; unfold arN; rw [F3 6 t rfl]
  have es : syN (am_set (am_set h3 0 11 1) 64 3 0) = syN h := by funext t; unfold syN; rw [F3 7 t rfl]
  rw [ea, es] at hmm
  obtain ⟨v5, h5, ⟨rfl, f5, r5⟩, G5⟩ := mx_184 (h0 := h4) (hmm.fr f4 (fun _ => rfl) (fun _ => rfl) (fun _ => rfl)) m4 (fun _ => 0)
  rw [← hst] at r5 G5
  have F4 : fr xJ h h4 := F3.trans (f4.mono fun k j hk => xM_I (xI_J hk))
  have F5 : fr xJ h (am_set h5 64 45 1) := (F4.trans (f5.or fun _ _ hk => xB_J hk)).set 64 45 _ rfl
  have e680 : (am_set h5 64 45 1) 68 0 = Int32.ofNat n := by rw [F5 68 0 rfl, p0]; exact en
  have e682 : (am_set h5 64 45 1) 68 2 = Int32.ofNat B := by rw [F5 68 2 rfl, p2]; exact eB
  obtain ⟨v6, h6, ⟨rfl, f6, r6⟩, G6⟩ := lp_180 (h := am_set h5 64 45 1) (z := Int32.ofNat st.1 - 1) hn5 e680 n 0 (some (.int p)) (some (.int y)) (am_set h5 64 45 1) rfl rfl (by omega) (fr.refl _ _) (fun j hj => by omega)
  have F6 : fr xJ h h6 := F5.trans (f6.or fun _ _ hk => xQ_J hk)
  have k0 : h6 0 11 = 1 := by
    rw [f6 0 11 rfl]
    show h5 0 11 = 1
    rw [f5 0 11 rfl, f4 0 11 rfl]
    rfl
  have k64 : h6 64 45 = 1 := by rw [f6 64 45 rfl]; rfl
  have k3 : h6 64 3 = 0 := by
    rw [f6 64 3 rfl]
    show h5 64 3 = 0
    rw [f5 64 3 rfl, f4 64 3 rfl]
    rfl
  have hI6 : Iv h6 := by
    refine Iv_frR hI F6 ⟨by rw [k0, k64], .inr ⟨k0, fun j hj hlt => ?_⟩⟩
    have hjn : j < n := by rw [F6 3 0 rfl, en, nz_nlt (by omega) (by omega)] at hlt; exact hlt
    obtain ⟨a1, a2, a3, a4⟩ := r5 c1 j hjn
    obtain ⟨b1', b2'⟩ := r6 j hjn
    obtain ⟨d1, d2⟩ := row j hjn
    have k62 : h6 62 j = h3 62 j := by
      rw [f6 62 j rfl]
      show h5 62 j = _
      rw [f5 62 j rfl, f4 62 j rfl]
      rfl
    have k63 : h6 63 j = h3 63 j := by
      rw [f6 63 j rfl]
      show h5 63 j = _
      rw [f5 63 j rfl, f4 63 j rfl]
      rfl
    rw [e682, show (am_set h5 64 45 1) 91 j = h5 91 j from rfl, a2] at b1'
    rw [show (am_set h5 64 45 1) 92 j = h5 92 j from rfl] at b2'
    refine ⟨?_, ?_⟩
    · rw [b1', k62, d1]
      unfold enB
      by_cases c : st.2 j < B
      · rw [if_pos c, if_neg (fun e => by rw [nz_inj (by omega) (by omega)] at e; omega)]
      · have : st.2 j = B := by omega
        rw [if_neg c, this, if_pos rfl]
    · rw [b2', k63, d2]
      by_cases c : st.2 j < B
      · rw [if_pos c, a3 c, ewO]
      · rw [if_neg c, a4 c]
  refine ⟨0, Int32.ofNat st.1 - 1, Int32.ofNat st.1 - 1, am_set h3 0 11 1, h6, .v fun d L xs o g Q T hq => sm_84 (am_iff a1 (am_ift a2 (am_iff a3 (am_iff a4 (G1 (d + 33) L xs o g _ _ (sm_84_16 rfl rfl rfl rfl (G2 (d + 42) L xs o g _ _ (sm_84_24 rfl rfl rfl (G3 (d + 50) L xs o g _ _ hq))))))))), fun d L xs o g Q T hq => sm_180 (am_iff a1 (am_iff (by rw [e681]; exact n2) (am_iff a3 (am_iff a4 (G4 (d + 44) L xs o g _ _ (sm_180_36 rfl rfl rfl rfl (G5 (d + 35) L xs o g _ _ (sm_180_40 rfl rfl rfl rfl (G6 (d + 50) L xs o g _ _ hq))))))))), hI6, k3, fun _ => rfl, by decide⟩
