/-! ===== the plan: the class ===== -/
def xI (k j : Nat) : Bool := (Nat.ble 45 k && Nat.ble k 61) || ((Nat.ble 88 k && Nat.ble k 92) || ((Nat.ble 95 k && Nat.ble k 97) || ((Nat.ble 13 k && Nat.ble k 22) || ((Nat.beq k 64 && (Nat.beq j 3 || (Nat.beq j 35 || (Nat.beq j 36 || (Nat.beq j 44 || (Nat.beq j 49 || (Nat.beq j 50 || (Nat.ble 19 j && Nat.ble j 26)))))))) || (Nat.beq k 1 && (Nat.ble 3 j && Nat.ble j 8))))))
theorem fr.cell {X : Nat → Nat → Bool} {h h1 : am_M} (f : fr X h h1) (k : Nat) (hk : ∀ j, X k j = false) : h1 k = h k := funext fun j => f k j (hk j)
/-- what is between calls is kept where only such cells change -/
theorem Iv.fr {h h1 : am_M} (hI : Iv h) (f : fr xI h h1) : Iv h1 := by
  have e2 := f.cell 2 (fun _ => rfl)
  have e4 := f.cell 4 (fun _ => rfl)
  have e5 := f.cell 5 (fun _ => rfl)
  have e6 := f.cell 6 (fun _ => rfl)
  have e7 := f.cell 7 (fun _ => rfl)
  have e8 := f.cell 8 (fun _ => rfl)
  have e9 := f.cell 9 (fun _ => rfl)
  have e10 := f.cell 10 (fun _ => rfl)
  have e11 := f.cell 11 (fun _ => rfl)
  have e24 := f.cell 24 (fun _ => rfl)
  have e25 := f.cell 25 (fun _ => rfl)
  have e26 := f.cell 26 (fun _ => rfl)
  have e27 := f.cell 27 (fun _ => rfl)
  have e28 := f.cell 28 (fun _ => rfl)
  have e29 := f.cell 29 (fun _ => rfl)
  have e30 := f.cell 30 (fun _ => rfl)
  have e31 := f.cell 31 (fun _ => rfl)
  have e32 := f.cell 32 (fun _ => rfl)
  have e33 := f.cell 33 (fun _ => rfl)
  have e35 := f.cell 35 (fun _ => rfl)
  have e36 := f.cell 36 (fun _ => rfl)
  have e37 := f.cell 37 (fun _ => rfl)
  have e38 := f.cell 38 (fun _ => rfl)
  have e39 := f.cell 39 (fun _ => rfl)
  have e40 := f.cell 40 (fun _ => rfl)
  have e41 := f.cell 41 (fun _ => rfl)
  have e42 := f.cell 42 (fun _ => rfl)
  have e43 := f.cell 43 (fun _ => rfl)
  have e44 := f.cell 44 (fun _ => rfl)
  have e62 := f.cell 62 (fun _ => rfl)
  have e63 := f.cell 63 (fun _ => rfl)
  have e67 := f.cell 67 (fun _ => rfl)
  have e68 := f.cell 68 (fun _ => rfl)
  have e69 := f.cell 69 (fun _ => rfl)
  have e70 := f.cell 70 (fun _ => rfl)
  have e71 := f.cell 71 (fun _ => rfl)
  have e72 := f.cell 72 (fun _ => rfl)
  have e73 := f.cell 73 (fun _ => rfl)
  have e74 := f.cell 74 (fun _ => rfl)
  have e75 := f.cell 75 (fun _ => rfl)
  have e76 := f.cell 76 (fun _ => rfl)
  have e77 := f.cell 77 (fun _ => rfl)
  have e78 := f.cell 78 (fun _ => rfl)
  have e79 := f.cell 79 (fun _ => rfl)
  have e80 := f.cell 80 (fun _ => rfl)
  have e81 := f.cell 81 (fun _ => rfl)
  have e82 := f.cell 82 (fun _ => rfl)
  have e83 := f.cell 83 (fun _ => rfl)
  have e84 := f.cell 84 (fun _ => rfl)
  have e85 := f.cell 85 (fun _ => rfl)
  have e86 := f.cell 86 (fun _ => rfl)
  have e87 := f.cell 87 (fun _ => rfl)
  have e93 := f.cell 93 (fun _ => rfl)
  have e94 := f.cell 94 (fun _ => rfl)
  have e98 := f.cell 98 (fun _ => rfl)
  have e99 := f.cell 99 (fun _ => rfl)
  have e100 := f.cell 100 (fun _ => rfl)
  have e101 := f.cell 101 (fun _ => rfl)
  have e102 := f.cell 102 (fun _ => rfl)
  have e103 := f.cell 103 (fun _ => rfl)
  have e104 := f.cell 104 (fun _ => rfl)
  have e105 := f.cell 105 (fun _ => rfl)
  have e106 := f.cell 106 (fun _ => rfl)
  have e107 := f.cell 107 (fun _ => rfl)
  have s0_5 := f 0 5 rfl
  have s0_11 := f 0 11 rfl
  have s1_0 := f 1 0 rfl
  have s1_1 := f 1 1 rfl
  have s3_0 := f 3 0 rfl
  have s3_1 := f 3 1 rfl
  have s3_2 := f 3 2 rfl
  have s12_0 := f 12 0 rfl
  have s12_1 := f 12 1 rfl
  have s12_2 := f 12 2 rfl
  have s12_3 := f 12 3 rfl
  have s23_0 := f 23 0 rfl
  have s34_0 := f 34 0 rfl
  have s64_18 := f 64 18 rfl
  have s64_27 := f 64 27 rfl
  have s64_28 := f 64 28 rfl
  have s64_45 := f 64 45 rfl
  have s64_51 := f 64 51 rfl
  have s64_52 := f 64 52 rfl
  unfold Iv iv_T iv_P iv_S iv_B iv_N iv_I iv_R iv_K at hI ⊢
  simp only [e2, e4, e5, e6, e7, e8, e9, e10, e11, e24, e25, e26, e27, e28, e29, e30, e31, e32, e33, e35, e36, e37, e38, e39, e40, e41, e42, e43, e44, e62, e63, e67, e68, e69, e70, e71, e72, e73, e74, e75, e76, e77, e78, e79, e80, e81, e82, e83, e84, e85, e86, e87, e93, e94, e98, e99, e100, e101, e102, e103, e104, e105, e106, e107, s0_5, s0_11, s1_0, s1_1, s3_0, s3_1, s3_2, s12_0, s12_1, s12_2, s12_3, s23_0, s34_0, s64_18, s64_27, s64_28, s64_45, s64_51, s64_52]
  exact hI
theorem neK_fr {h h1 : am_M} (f : fr xI h h1) (p s but : Int32) (M : Nat) : neK h1 p s but M = neK h p s but M ∧ spK h1 p s but M = spK h p s but M := by
  have e4 := f.cell 4 (fun _ => rfl)
  have e5 := f.cell 5 (fun _ => rfl)
  have e8 := f.cell 8 (fun _ => rfl)
  have e24 := f.cell 24 (fun _ => rfl)
  have e26 := f.cell 26 (fun _ => rfl)
  have e27 := f.cell 27 (fun _ => rfl)
  have e28 := f.cell 28 (fun _ => rfl)
  have e30 := f.cell 30 (fun _ => rfl)
  have e12 := f 12 1 rfl
  have es : spK h1 p s but M = spK h p s but M := by
    unfold spK
    have : tk_kn h1 p s but = tk_kn h p s but := by
      funext k
      unfold tk_kn
      rw [e24, e26]
    rw [this, e4, e5, e27, e28]
  refine ⟨?_, es⟩
  unfold neK
  rw [es, e8, e30, e12]
theorem wtr_fr {h h1 : am_M} (f : fr xI h h1) (s b x day : Int32) : wtr h1 s b x day = wtr h s b x day := by
  unfold wtr
  rw [f.cell 7 (fun _ => rfl), f.cell 9 (fun _ => rfl), f.cell 10 (fun _ => rfl), f.cell 11 (fun _ => rfl), f 12 0 rfl]
theorem nat_2 {x : Int32} (h0 : ¬ x < 0) (h1 : ¬ 2 < x) : ∃ n, n ≤ 2 ∧ x = Int32.ofNat n := by
  have e : 0 ≤ x.toInt := by rw [nz_lt] at h0; have : (0 : Int32).toInt = 0 := rfl; omega
  refine ⟨x.toNatClampNeg, ?_, nz_of e⟩
  rw [nz_lt] at h1
  have : (2 : Int32).toInt = 2 := rfl
  rw [nz_cn]
  omega
def arN (h : am_M) (s : Nat) : Nat := (h 6 s).toNatClampNeg
def syN (h : am_M) (s : Nat) : Nat := (h 7 s).toNatClampNeg
theorem plc_of {h : am_M} (hI : Iv h) : ∃ n B W, plc h n B W (arN h) (syN h) := by
  obtain ⟨hT, hP, _⟩ := hI
  obtain ⟨b0, b1, b2, b3, b4, b5, b6, b7, b8, b9, b10, b11, b12, b13⟩ := hP.2.1
  obtain ⟨n, hn, en⟩ := nat_5 b0 b1
  obtain ⟨B, hB, eB⟩ := nat_5 b4 b5
  obtain ⟨W, hW, eW⟩ := nat_2 b10 b11
  refine ⟨n, B, W, ⟨hn, hB, hW⟩, ⟨en, eB, eW⟩, fun s hs => ?_⟩
  obtain ⟨_, _, _, _, r9, r10, r11, r12, _⟩ := hP.2.2.1 s (by omega) (by rw [en, nz_nlt (by omega) (by omega)]; omega)
  rw [nz_lt] at r9 r10 r11 r12
  have c0 : (0 : Int32).toInt = 0 := rfl
  have c1 : (1 : Int32).toInt = 1 := rfl
  have c12 : (12 : Int32).toInt = 12 := rfl
  have c23 : (23 : Int32).toInt = 23 := rfl
  unfold arN syN
  refine ⟨nz_of (by omega), nz_of (by omega), ?_, ?_, ?_⟩ <;> rw [nz_cn] <;> omega
def xW (k j : Nat) : Bool := (Nat.ble 50 k && Nat.ble k 54) || (Nat.beq k 45 && Nat.beq j 11)
theorem xW_I {k j : Nat} (h : xI k j = false) : xW k j = false := by
  cases hc : xW k j with
  | false => rfl
  | true =>
    exfalso
    unfold xW at hc
    unfold xI at h
    simp only [Bool.or_eq_true, Bool.and_eq_true, Nat.ble_eq, Nat.beq_eq] at hc
    simp only [Bool.or_eq_false_iff, Bool.and_eq_false_iff] at h
    have h1 := h.1
    rcases h1 with h1 | h1
    · rcases hc with hc | hc
      · have := Nat.ble_eq_true_of_le (show 45 ≤ k by omega); rw [this] at h1; cases h1
      · have := Nat.ble_eq_true_of_le (show 45 ≤ k by omega); rw [this] at h1; cases h1
    · rcases hc with hc | hc
      · have := Nat.ble_eq_true_of_le (show k ≤ 61 by omega); rw [this] at h1; cases h1
      · have := Nat.ble_eq_true_of_le (show k ≤ 61 by omega); rw [this] at h1; cases h1
theorem xW_w {s j : Nat} (hs : s < 5) : xW (50 + s) j = true := by
  have e : s = 0 ∨ s = 1 ∨ s = 2 ∨ s = 3 ∨ s = 4 := by omega
  rcases e with e | e | e | e | e <;> subst e <;> rfl
/-- the water of each ship, berth and waiting -/
def wtF (h : am_M) (day : Int32) (s b x : Nat) : Int32 := wtr h (Int32.ofNat s) (Int32.ofNat b) (h 6 s + Int32.ofNat x) day
def wDn (h h' : am_M) (n B W : Nat) (day : Int32) (s b x : Nat) : Prop := ∀ s' b' x', s' < n → b' < B → x' ≤ W → (s' < s ∨ (s' = s ∧ (b' < b ∨ (b' = b ∧ x' < x)))) → h' (50 + s') (3 * b' + x') = wtF h day s' b' x'
section
variable {h : am_M} {n B W : Nat} {ar sy : Nat → Nat} {day : Int32}
theorem nat_n0 {k : Nat} (hk : k < 1000) : ¬ Int32.ofNat k < 0 := by
  rw [nz_lt, nz_n k (by omega)]
  have : (0 : Int32).toInt = 0 := rfl
  omega
theorem mx_86 (hI : Iv h) (hc : plc h n B W ar sy) : mx 2 86 0 [some (.ref 45), some (.int day), none, none, none] [] h (fun v h1 => v = none ∧ fr xW h h1 ∧ h1 45 11 = -1 ∧ plw h1 n B W (wtF h day)) := by
  obtain ⟨⟨hn5, hB5, hW2⟩, ⟨en, eB, eW⟩, hA⟩ := hc
  -- waits of one berth
  have l3 : ∀ (P : Option Value → am_M → Prop) (s b : Nat), s < n → b < B → (∀ h' x, fr xW h h' → h' 45 11 = -1 → wDn h h' n B W day s (b + 1) 0 → mx 2 86 20 [some (.ref 45), some (.int day), some (.int (Int32.ofNat s)), some (.int (Int32.ofNat (b + 1))), some (.int x)] [] h' P) → ∀ (r x : Nat) (h' : am_M), x + r = W + 1 → fr xW h h' → h' 45 11 = -1 → wDn h h' n B W day s b x → mx 2 86 34 [some (.ref 45), some (.int day), some (.int (Int32.ofNat s)), some (.int (Int32.ofNat b)), some (.int (Int32.ofNat x))] [] h' P := by
    intro P s b hs hb K r
    induction r with
    | zero =>
      intro x h' hx hf h11 hd
      have M := mv_60w (h := h') (hI.fr (hf.mono fun _ _ hk => xW_I hk)) (s := Int32.ofNat s) (b := Int32.ofNat b) (x := h' 6 s + Int32.ofNat x) (day := day) (nat_n0 (by omega)) (by rw [hf 3 0 rfl, en, nz_nlt (by omega) (by omega)]; omega) (nat_n0 (by omega)) (by rw [hf 3 2 rfl, eB, nz_nlt (by omega) (by omega)]; omega)
      rw [nz_c s (by omega)] at M
      refine (K h' (Int32.ofNat x) hf h11 (fun s' b' x' a1 a2 a3 a4 => hd s' b' x' a1 a2 a3 (by omega))).go fun d L xs o g Q T hx' => sm_86_34u (by omega) (by omega) (by omega) (by rw [hf 12 2 rfl, eW]; show ¬ Int32.ofNat 2 < Int32.ofNat W; rw [nz_nlt (by decide) (by omega)]; omega) M ?_
      rw [hf 12 2 rfl, eW]
      exact am_ift (by rw [nz_nlt (by omega) (by omega)]; omega) hx'
    | succ r ih =>
      intro x h' hx hf h11 hd
      have M := mv_60w (h := h') (hI.fr (hf.mono fun _ _ hk => xW_I hk)) (s := Int32.ofNat s) (b := Int32.ofNat b) (x := h' 6 s + Int32.ofNat x) (day := day) (nat_n0 (by omega)) (by rw [hf 3 0 rfl, en, nz_nlt (by omega) (by omega)]; omega) (nat_n0 (by omega)) (by rw [hf 3 2 rfl, eB, nz_nlt (by omega) (by omega)]; omega)
      rw [nz_c s (by omega), wtr_fr (hf.mono fun _ _ hk => xW_I hk)] at M
      have e6 : h' 6 s = h 6 s := hf 6 s rfl
      refine (ih (x + 1) (am_set h' (50 + s) (3 * b + x) (wtF h day s b x)) (by omega) (hf.set _ _ _ (xW_w (by omega))) ?_ (fun s' b' x' a1 a2 a3 a4 => ?_)).go fun d L xs o g Q T hx' => sm_86_34u (by omega) (by omega) (by omega) (by rw [hf 12 2 rfl, eW]; show ¬ Int32.ofNat 2 < Int32.ofNat W; rw [nz_nlt (by decide) (by omega)]; omega) M ?_
      · rw [as_cell _ _ _ (by omega)]; exact h11
      · rw [as_get]
        by_cases e : 50 + s' = 50 + s ∧ 3 * b' + x' = 3 * b + x
        · rw [if_pos e]
          have e1 : s' = s := by omega
          have e2 : b' = b := by omega
          have e3 : x' = x := by omega
          rw [e1, e2, e3]
        · rw [if_neg e]
          exact hd s' b' x' a1 a2 a3 (by omega)
      · rw [hf 12 2 rfl, eW]
        refine am_iff (by rw [nz_nlt (by omega) (by omega)]; omega) ?_
        rw [e6]
        exact hx'
  have l2 : ∀ (P : Option Value → am_M → Prop) (s : Nat), s < n → (∀ h' x q, am_nl q = true → fr xW h h' → h' 45 11 = -1 → wDn h h' n B W day (s + 1) 0 0 → mx 2 86 7 [some (.ref 45), some (.int day), some (.int (Int32.ofNat (s + 1))), some (.int x), q] [] h' P) → ∀ (r b : Nat) (q : Option Value) (h' : am_M), am_nl q = true → b + r = B → fr xW h h' → h' 45 11 = -1 → wDn h h' n B W day s b 0 → mx 2 86 20 [some (.ref 45), some (.int day), some (.int (Int32.ofNat s)), some (.int (Int32.ofNat b)), q] [] h' P := by
    intro P s hs K r
    induction r with
    | zero =>
      intro b q h' hq hb hf h11 hd
      refine (K h' (Int32.ofNat b) q hq hf h11 (fun s' b' x' a1 a2 a3 a4 => hd s' b' x' a1 a2 a3 (by omega))).go fun d L xs o g Q T hx => sm_86_20 hq ?_
      rw [hf 3 2 rfl, eB, nz_succ]
      exact am_iff (by rw [nz_nlt (by omega) (by omega)]; omega) hx
    | succ r ih =>
      intro b q h' hq hb hf h11 hd
      refine (l3 P s b hs (by omega) (fun h2 x f1 f2 f3 => ih (b + 1) (some (.int x)) h2 rfl (by omega) f1 f2 f3) (W + 1) 0 h' (by omega) hf h11 hd).go fun d L xs o g Q T hx => sm_86_20 hq ?_
      rw [hf 3 2 rfl, eB]
      exact am_ift (by rw [nz_nlt (by omega) (by omega)]; omega) hx
  have l1 : ∀ (r s : Nat) (q3 q4 : Option Value) (h' : am_M), am_nl q3 = true → am_nl q4 = true → s + r = n → fr xW h h' → h' 45 11 = -1 → wDn h h' n B W day s 0 0 → mx 2 86 7 [some (.ref 45), some (.int day), some (.int (Int32.ofNat s)), q3, q4] [] h' (fun v h1 => v = none ∧ fr xW h h1 ∧ h1 45 11 = -1 ∧ plw h1 n B W (wtF h day)) := by
    intro r
    induction r with
    | zero =>
      intro s q3 q4 h' h3 h4 hs hf h11 hd
      refine .end none h' ⟨rfl, hf, h11, fun s' b' x' a1 a2 a3 => hd s' b' x' a1 a2 a3 (by omega)⟩ fun d L xs o g Q T hq => sm_86_7 h3 h4 ?_
      rw [hf 3 0 rfl, en]
      exact am_iff (by rw [nz_nlt (by omega) (by omega)]; omega) hq
    | succ r ih =>
      intro s q3 q4 h' h3 h4 hs hf h11 hd
      refine (l2 _ s (by omega) (fun h2 x q hq f1 f2 f3 => ih (s + 1) (some (.int x)) q h2 rfl hq (by omega) f1 f2 f3) B 0 q4 h' h4 (by omega) hf h11 hd).go fun d L xs o g Q T hx => sm_86_7 h3 h4 ?_
      rw [hf 3 0 rfl, en]
      exact am_ift (by rw [nz_nlt (by omega) (by omega)]; omega) hx
  exact (l1 n 0 none none (am_set h 45 11 (-1)) rfl rfl (by omega) ((fr.refl _ _).set 45 11 _ rfl) (as_self _ _ _ _) (fun s' b' x' a1 a2 a3 a4 => by omega)).go fun d L xs o g Q T hx => sm_86 hx
def xP (k _ : Nat) : Bool := (Nat.ble 45 k && Nat.ble k 58) || Nat.beq k 61
theorem xP_I {k j : Nat} (h : xI k j = false) : xP k j = false := by
  cases hc : xP k j with
  | false => rfl
  | true =>
    exfalso
    unfold xP at hc
    unfold xI at h
    simp only [Bool.or_eq_true, Bool.and_eq_true, Nat.ble_eq, Nat.beq_eq] at hc
    simp only [Bool.or_eq_false_iff, Bool.and_eq_false_iff] at h
    rcases h.1 with h1 | h1
    · have := Nat.ble_eq_true_of_le (show 45 ≤ k by omega); rw [this] at h1; cases h1
    · have := Nat.ble_eq_true_of_le (show k ≤ 61 by omega); rw [this] at h1; cases h1
theorem xW_P {k j : Nat} (h : xP k j = false) : xW k j = false := by
  cases hc : xW k j with
  | false => rfl
  | true =>
    exfalso
    unfold xW at hc
    unfold xP at h
    simp only [Bool.or_eq_true, Bool.and_eq_true, Nat.ble_eq, Nat.beq_eq] at hc
    simp only [Bool.or_eq_false_iff, Bool.and_eq_false_iff] at h
    rcases h.1 with h1 | h1
    · have := Nat.ble_eq_true_of_le (show 45 ≤ k by omega); rw [this] at h1; cases h1
    · have := Nat.ble_eq_true_of_le (show k ≤ 58 by omega); rw [this] at h1; cases h1
def xF (k j : Nat) : Bool := Nat.beq k 55 || (Nat.beq k 45 && Nat.beq j 10 || xS k j)
theorem xF_P {k j : Nat} (h : xP k j = false) : xF k j = false := by
  cases hc : xF k j with
  | false => rfl
  | true =>
    exfalso
    unfold xF xS xT at hc
    unfold xP at h
    simp only [Bool.or_eq_true, Bool.and_eq_true, Nat.beq_eq] at hc
    simp only [Bool.or_eq_false_iff, Bool.and_eq_false_iff] at h
    rcases h.1 with h1 | h1
    · have := Nat.ble_eq_true_of_le (show 45 ≤ k by omega); rw [this] at h1; cases h1
    · have := Nat.ble_eq_true_of_le (show k ≤ 58 by omega); rw [this] at h1; cases h1
theorem xF_w {s j : Nat} (hs : s < 5) : xF (50 + s) j = false := by
  have e : s = 0 ∨ s = 1 ∨ s = 2 ∨ s = 3 ∨ s = 4 := by omega
  rcases e with e | e | e | e | e <;> subst e <;> rfl
/-- what stands when a plan is made -/
def plan (h h1 : am_M) (p day : Int32) (n B W N : Nat) (st : plT) : Prop := fr xP h h1 ∧ plw h1 n B W (wtF h day) ∧ pnd h1 n (fun s => neK h p (Int32.ofNat s) (-1) N) ∧ plcs h1 n B W (wtF h day) (fun s => neK h p (Int32.ofNat s) (-1) N) ∧ h1 45 10 = Int32.ofNat st.1 - 1 ∧ h1 45 11 = -1 ∧ st.1 ≤ 6 ∧ (0 < st.1 → ∀ j, j < n → h1 47 j = enB B (st.2 j))
theorem mx_85 (hI : Iv h) (hc : plc h n B W (arN h) (syN h)) {N : Nat} {p : Int32} (hN : N ≤ 80) (e1 : h 23 0 = Int32.ofNat N) (a0 : Nat → Nat) : mx 16 85 0 [some (.ref 0), some (.int p), some (.int day), none] [] h (fun v h1 => v = some (.int (Int32.ofNat (srR (wtF h day) (fun s => neK h p (Int32.ofNat s) (-1) N) (arN h) (syN h) B W n (0, a0)).1 - 1)) ∧ plan h h1 p day n B W N (srR (wtF h day) (fun s => neK h p (Int32.ofNat s) (-1) N) (arN h) (syN h) B W n (0, a0))) := by
  have hc' := hc
  obtain ⟨⟨hn5, hB5, hW2⟩, ⟨en, eB, eW⟩, hA⟩ := hc'
  obtain ⟨w0, h1, ⟨rfl, f1, f2, f3⟩, G⟩ := mx_86 (day := day) hI hc
  have lp : ∀ (r s : Nat) (q2 : Option Value) (h' : am_M), am_nl q2 = true → s + r = n → fr xP h h' → h' 45 11 = -1 → plw h' n B W (wtF h day) → (∀ s', s' < s → h' 46 s' = neK h p (Int32.ofNat s') (-1) N) → mx 16 85 10 [some (.ref 0), some (.int p), q2, some (.int (Int32.ofNat s))] [] h' (fun v h1 => v = some (.int (Int32.ofNat (srR (wtF h day) (fun s => neK h p (Int32.ofNat s) (-1) N) (arN h) (syN h) B W n (0, a0)).1 - 1)) ∧ plan h h1 p day n B W N (srR (wtF h day) (fun s => neK h p (Int32.ofNat s) (-1) N) (arN h) (syN h) B W n (0, a0))) := by
    intro r
    induction r with
    | zero =>
      intro s q2 h' hq2 hs hf h11 hw hn
      have hse : s = n := by omega
      subst hse
      have hch := hc.fr hf (fun _ => rfl) rfl (fun _ => rfl) (fun _ => rfl)
      obtain ⟨v, h2, ⟨rfl, g1, g2, g3, g4, g5⟩, G2⟩ := mx_87 (h := h') (ar := arN h) (sy := syN h) (nd := fun s => neK h p (Int32.ofNat s) (-1) N) hch hw hn (a0 := a0)
      refine .end _ h2 ⟨rfl, hf.trans (fr.mono g1 fun k j hk => xF_P hk), fun s b x a1 a2 a3 => ?_, fun s hs => ?_, g3, g2, ?_, g4, g5⟩ fun d L xs o g Q T hq => sm_85_10 hq2 ?_
      · rw [g1 (50 + s) _ (xF_w (by omega))]; exact hw s b x a1 a2 a3
      · rw [g1 46 s rfl]; exact hn s hs
      · rw [g1 45 11 rfl]; exact h11
      · rw [hf 3 0 rfl, en]
        exact am_iff (by rw [nz_nlt (by omega) (by omega)]; omega) (G2 d L xs o g _ _ (sm_85_57 rfl rfl hq2 rfl hq))
    | succ r ih =>
      intro s q2 h' hq2 hs hf h11 hw hn
      have M := mv_80 (h := h') (p := p) (s := Int32.ofNat s) (but := -1) hN (ix_n (by omega) (by decide))
      have M' : mv 2 80 [some (.ref 0), some (.int p), some (.int (Int32.ofNat s)), some (.int (Int32.ofNat N)), some (.int (-1))] h' (some (.int (neK h' p (Int32.ofNat s) (-1) N))) (wrp h' 61 0 1 (spK h' p (Int32.ofNat s) (-1) N)) := M
      have ne := neK_fr (hf.mono fun _ _ hk => xP_I hk) p (Int32.ofNat s) (-1) N
      rw [ne.1, ne.2] at M'
      have f61 : fr xP h (wrp h' 61 0 1 (spK h p (Int32.ofNat s) (-1) N)) := (hf.set 61 0 _ rfl).set 61 1 _ rfl
      refine (ih (s + 1) q2 (am_set (wrp h' 61 0 1 (spK h p (Int32.ofNat s) (-1) N)) 46 s (neK h p (Int32.ofNat s) (-1) N)) hq2 (by omega) (f61.set 46 s _ rfl) h11 (fun s' b' x' a1 a2 a3 => ?_) (fun s' hs' => ?_)).go fun d L xs o g Q T hx => sm_85_10 hq2 ?_
      · rw [as_cell _ _ _ (by omega), wrp_c _ _ _ _ (by omega)]; exact hw s' b' x' a1 a2 a3
      · by_cases e : s' = s
        · subst e; exact as_self _ _ _ _
        · rw [as_slot _ _ _ e, wrp_c _ _ _ _ (by decide)]; exact hn s' (by omega)
      · rw [hf 3 0 rfl, en, hf 23 0 rfl, e1]
        refine am_ift (by rw [nz_nlt (by omega) (by omega)]; omega) (M'.use (sm_85_43 hq2 ⟨ix_n (by omega) (by decide), ?_⟩))
        rw [nz_c s (by omega), nz_succ]
        exact hx
  refine (lp n 0 (some (.int day)) h1 rfl (by omega) (f1.mono fun k j hk => xW_P hk) f2 f3 (fun s' hs' => by omega)).go fun d L xs o g Q T hx => sm_85 (G (d + 13) L xs o g _ _ (sm_85_8 rfl rfl hx))
/-- the waits of the best row -/
theorem mx_93 {wt : Nat → Nat → Nat → Int32} {nd : Nat → Int32} {a wM : Nat → Nat} (hc : plc h n B W ar sy) (hw : plw h n B W wt) (hnd : pnd h n nd) (hf : ∀ j, j < n → h 47 j = enB B (a j)) (hM : plM (plFt wt nd) (plOv ar sy) B W n a (fun _ => 0) = some wM) : mx 7 93 0 [some (.ref 45), none, none, none] [] h (fun v h1 => v = none ∧ fr x48 h h1 ∧ ∀ j, j < n → a j < B → h1 48 j = Int32.ofNat (wM j)) := by
  have hc' := hc
  obtain ⟨⟨hn5, hB5, hW2⟩, ⟨en, eB, eW⟩, hA⟩ := hc'
  have en47 : ∀ j b, j < n → b < B → (h 47 j = Int32.ofNat b ↔ a j = b) := fun j b hj hb => by
    rw [hf j hj]
    unfold enB
    by_cases e : a j < B
    · rw [if_pos e, nz_inj (by omega) (by omega)]
    · rw [if_neg e]
      constructor
      · intro hh
        exfalso
        have := nat_n0 (k := b) (by omega)
        rw [← hh] at this
        exact this (by decide)
      · intro hh; omega
  have lb : ∀ (P : Option Value → am_M → Prop) (b : Nat), b < B → ∀ (r k u : Nat) (h' : am_M), k + r = n → u < 32 → (∀ t, t < 5 → u.testBit t = (decide (t < k) && decide (a t = b))) → fr x48 h h' → (∀ h2 q2 q3, am_nl q2 = true → am_nl q3 = true → fr x48 h h2 → (∀ j, j < n → ¬ a j = b → h2 48 j = h' 48 j) → (∀ j, j < n → a j = b → h2 48 j = Int32.ofNat (wM j)) → mx 7 93 2 [some (.ref 45), some (.int (Int32.ofNat (b + 1))), q2, q3] [] h2 P) → mx 7 93 17 [some (.ref 45), some (.int (Int32.ofNat b)), some (.int (Int32.ofNat u)), some (.int (Int32.ofNat k))] [] h' P := by
    intro P b hb r
    induction r with
    | zero =>
      intro k u h' hk hu tu hf' K
      have hke : k = n := by omega
      subst hke
      obtain ⟨wb, hwb, ewb⟩ := plM_B hM hb (fun _ => 0)
      have hch := hc.fr hf' (fun _ => rfl) rfl (fun _ => rfl) (fun _ => rfl)
      have hwh : plw h' k B W wt := fun s b x h1 h2 h3 => by rw [hf' _ _ (x48_w (by omega))]; exact hw s b x h1 h2 h3
      have hnh : pnd h' k nd := fun s hs => by rw [hf' 46 s rfl]; exact hnd s hs
      have M := (mx_92 hch hwh hnh hb hu (fun _ => rfl) k 0 (fun _ => 0) (Int64.ofNat 0) h' (by omega) (fr.refl _ _) (fun i hi => rp_zero i hi) (fun o ho => by omega)).more (5 - k)
      have ef : plF (fun o => u.testBit o) (plCb (plFt wt nd) (plOv ar sy) (fun o => u.testBit o) b) W k 0 (fun _ => 0) = some wb := by
        rw [← hwb]
        unfold plB
        apply plF_congr
        intro o _ ho
        refine ⟨tu o (by omega), fun hr x w' _ => ?_⟩
        rw [tu o (by omega), Bool.and_eq_true, decide_eq_true_eq, decide_eq_true_eq] at hr
        unfold plCb plC
        rw [hr.2]
        congr 2
        apply anyF_congr
        intro q _ hq
        show (u.testBit q && _) = _
        rw [tu q (by omega), decide_eq_true (show q < k by omega), Bool.true_and]
      rw [show k + 1 + (5 - k) = 6 by omega, ef] at M
      obtain ⟨v, h2, ⟨g1, g2, rfl, g3⟩, G⟩ := M
      refine (K h2 (some (.int (Int32.ofNat u))) (some (.int (Int32.ofNat k))) rfl rfl (hf'.trans g1) (fun j hj hne => ?_) (fun j hj he => ?_)).go fun d L xs o g Q T hx => sm_93_17 ?_
      · refine g2 j (.inr (.inr ?_))
        show u.testBit j = false
        rw [tu j (by omega), decide_eq_false hne, Bool.and_false]
      · rw [g3 j (by omega) hj (by show u.testBit j = true; rw [tu j (by omega), decide_eq_true he, decide_eq_true hj]; rfl), ewb j hj he]
      · rw [hf' 3 0 rfl, en]
        refine am_iff (by rw [nz_nlt (by omega) (by omega)]; omega) (G d L xs o g _ _ (sm_93_58 rfl rfl ?_))
        rw [nz_succ]
        exact hx
    | succ r ih =>
      intro k u h' hk hu tu hf' K
      have b3 := bt_or ⟨u, hu⟩ ⟨k, by omega⟩
      have lt : Int32.ofNat k < Int32.ofNat n := by rw [nz_nlt (by omega) (by omega)]; omega
      by_cases e : a k = b
      · refine (ih (k + 1) (u ||| 2 ^ k) h' (by omega) b3.2 (fun t ht => ?_) hf' K).go fun d L xs o g Q T hx => sm_93_17 ?_
        · rw [bt_set ⟨u, hu⟩ ⟨k, by omega⟩ ⟨t, ht⟩]
          simp only
          rw [tu t ht]
          by_cases e2 : t = k
          · subst e2
            rw [decide_eq_true e, decide_eq_true rfl, decide_eq_true (Nat.lt_succ_self t), Bool.or_true, Bool.and_true]
          · rw [decide_eq_false e2, Bool.or_false, Bool.eq_iff_iff]
            simp only [Bool.and_eq_true, decide_eq_true_eq]
            omega
        · rw [hf' 3 0 rfl, en]
          refine am_ift lt ⟨ix_n (by omega) (by decide), ?_⟩
          rw [nz_c k (by omega), hf' 47 k rfl, show (Int32.ofNat u ||| 1 <<< (Int32.ofNat k &&& 31)) = Int32.ofNat (u ||| 2 ^ k) from b3.1, nz_succ]
          exact am_ift ((en47 k b (by omega) hb).2 e) hx
      · refine (ih (k + 1) u h' (by omega) hu (fun t ht => ?_) hf' K).go fun d L xs o g Q T hx => sm_93_17 ?_
        · rw [tu t ht]
          by_cases e2 : t = k
          · subst e2
            rw [decide_eq_false e, Bool.and_false, Bool.and_false]
          · rw [Bool.eq_iff_iff]
            simp only [Bool.and_eq_true, decide_eq_true_eq]
            omega
        · rw [hf' 3 0 rfl, en]
          refine am_ift lt ⟨ix_n (by omega) (by decide), ?_⟩
          rw [nz_c k (by omega), hf' 47 k rfl, nz_succ]
          exact am_iff (fun q => e ((en47 k b (by omega) hb).1 q)) hx
  have lo : ∀ (r b : Nat) (q2 q3 : Option Value) (h' : am_M), am_nl q2 = true → am_nl q3 = true → b + r = B → fr x48 h h' → (∀ j, j < n → a j < b → h' 48 j = Int32.ofNat (wM j)) → mx 7 93 2 [some (.ref 45), some (.int (Int32.ofNat b)), q2, q3] [] h' (fun v h1 => v = none ∧ fr x48 h h1 ∧ ∀ j, j < n → a j < B → h1 48 j = Int32.ofNat (wM j)) := by
    intro r
    induction r with
    | zero =>
      intro b q2 q3 h' hq2 hq3 hb hf' hd
      have hbe : b = B := by omega
      subst hbe
      refine .end none h' ⟨rfl, hf', hd⟩ fun d L xs o g Q T hq => sm_93_2 hq2 hq3 ?_
      rw [hf' 3 2 rfl, eB]
      exact am_iff (by rw [nz_nlt (by omega) (by omega)]; omega) hq
    | succ r ih =>
      intro b q2 q3 h' hq2 hq3 hb hf' hd
      refine (lb _ b (by omega) n 0 0 h' (by omega) (by decide) (fun t _ => by simp) hf' (fun h2 q2 q3 i1 i2 g1 g2 g3 => ih (b + 1) q2 q3 h2 i1 i2 (by omega) g1 (fun j hj hlt => ?_))).go fun d L xs o g Q T hx => sm_93_2 hq2 hq3 ?_
      · by_cases e : a j = b
        · exact g3 j hj e
        · rw [g2 j hj e]; exact hd j hj (by omega)
      · rw [hf' 3 2 rfl, eB]
        exact am_ift (by rw [nz_nlt (by omega) (by omega)]; omega) hx
  exact (lo B 0 none none h rfl rfl (by omega) (fr.refl _ _) (fun j hj hlt => by omega)).go fun d L xs o g Q T hx => sm_93 hx
end
