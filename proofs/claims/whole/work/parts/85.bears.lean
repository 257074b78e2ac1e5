/-! ===== bears ===== -/
/-- the first from k on at which f holds, at most m steps; one above the last below k at which it doesn't -/
def upF (f : Nat → Bool) : Nat → Nat → Nat
  | k, 0 => k
  | k, m + 1 => if f k = true then k else upF f (k + 1) m
def dnF (f : Nat → Bool) : Nat → Nat
  | 0 => 0
  | k + 1 => if f k = true then dnF f k else k + 1
theorem dn_spec {f : Nat → Bool} {n : Nat} (hm : ∀ i j, i ≤ j → j ≤ n → f i = true → f j = true) : ∀ k, k ≤ n → dnF f k ≤ k ∧ (∀ i, i < dnF f k → f i = false) ∧ ∀ i, dnF f k ≤ i → i < k → f i = true
  | 0, _ => ⟨Nat.le_refl _, fun i hi => absurd hi (by simp [dnF]), fun i _ hi => absurd hi (by omega)⟩
  | k + 1, hn => by
    obtain ⟨a, b, c⟩ := dn_spec hm k (by omega)
    simp only [dnF]
    by_cases h : f k = true
    · rw [if_pos h]
      refine ⟨by omega, b, fun i h1 h2 => ?_⟩
      by_cases e : i = k
      · subst e; exact h
      · exact c i h1 (by omega)
    · rw [if_neg h]
      refine ⟨Nat.le_refl _, fun i hi => ?_, fun i h1 h2 => by omega⟩
      cases hf : f i with
      | false => rfl
      | true => exact absurd (hm i k (by omega) (by omega) hf) h
theorem up_eq {f : Nat → Bool} {D n : Nat} (h1 : ∀ i, i < D → f i = false) (h2 : ∀ i, D ≤ i → i < n → f i = true) (hD : D ≤ n) : ∀ m k, k + m = n → k ≤ D → upF f k m = D
  | 0, k, hk, hk2 => by simp only [upF]; omega
  | m + 1, k, hk, hk2 => by
    simp only [upF]
    by_cases e : k = D
    · subst e
      rw [if_pos (h2 k (Nat.le_refl _) (by omega))]
    · rw [if_neg (by rw [h1 k (by omega)]; decide)]
      exact up_eq h1 h2 hD m (k + 1) (by omega) (by omega)
/-- water for a load: too little -/
def ldF (W g k c : Int32) (l : Nat) : Bool := decide (W < (g + k * (Int32.ofNat l / 10)) + c)
theorem ld_mono {W g k c : Int32} (g0 : ¬ g < 0) (g1 : ¬ 60 < g) (k0 : ¬ k < 0) (k1 : ¬ 9 < k) (c0 : ¬ c < 0) (c1 : ¬ 20 < c) : ∀ i j, i ≤ j → j ≤ 100 → ldF W g k c i = true → ldF W g k c j = true := by
  intro i j hij hj h
  unfold ldF at h ⊢
  rw [decide_eq_true_eq] at h ⊢
  rw [nz_lt] at g0 g1 k0 k1 c0 c1 h ⊢
  have z0 : (0 : Int32).toInt = 0 := rfl
  have z60 : (60 : Int32).toInt = 60 := rfl
  have z9 : (9 : Int32).toInt = 9 := rfl
  have z20 : (20 : Int32).toInt = 20 := rfl
  have z10 : (10 : Int32).toInt = 10 := rfl
  have v : ∀ q : Nat, q ≤ 100 → ((g + k * (Int32.ofNat q / 10)) + c).toInt = g.toInt + k.toInt * ((q : Int) / 10) + c.toInt ∧ 0 ≤ k.toInt * ((q : Int) / 10) ∧ k.toInt * ((q : Int) / 10) ≤ 9 * 10 := by
    intro q hq
    have d : (Int32.ofNat q / 10).toInt = (q : Int) / 10 := by rw [nz_div (by rw [nz_n q (by omega)]; omega) (by rw [z10]; decide), nz_n q (by omega), z10]
    have m0 : 0 ≤ k.toInt * ((q : Int) / 10) := Int.mul_nonneg (by omega) (by omega)
    have m1 : k.toInt * ((q : Int) / 10) ≤ 9 * 10 := Int.mul_le_mul (by omega) (by omega) (by omega) (by omega)
    have m : (k * (Int32.ofNat q / 10)).toInt = k.toInt * ((q : Int) / 10) := by rw [nz_mul (by rw [d]; omega) (by rw [d]; omega), d]
    have a : (g + k * (Int32.ofNat q / 10)).toInt = g.toInt + k.toInt * ((q : Int) / 10) := by rw [nz_add (by rw [m]; omega) (by rw [m]; omega), m]
    refine ⟨?_, m0, m1⟩
    rw [nz_add (by rw [a]; omega) (by rw [a]; omega), a]
  have vi := v i (by omega)
  have vj := v j hj
  rw [vi.1] at h
  rw [vj.1]
  have : k.toInt * ((i : Int) / 10) ≤ k.toInt * ((j : Int) / 10) := Int.mul_le_mul_of_nonneg_left (by omega) (by omega)
  omega
section
variable {L : Nat} {xs : Nat → Int32} {d : Nat} {h : am_M} {o : am_L} {g : Nat} {Q : Option Value → am_M → am_L → Nat → Prop} {T : Nat → am_M → am_L → Nat → Prop}
theorem lp_112 {s W : Int32} (hs : am_ix s 5) {q1 q3 : Option Value} (h1 : am_nl q1 = true) (h3 : am_nl q3 = true) : ∀ k : Nat, k ≤ 100 → Q (some (.int (Int32.ofNat (dnF (ldF W (h 61 1) (h 8 s.toNatClampNeg) (h 12 1)) k) - 1))) h o g → am_X L xs (d + 2) 112 66 [some (.ref 0), q1, some (.int s), q3, some (.int W), some (.int (Int32.ofNat k - 1))] [] am_C0 h o g Q T := by
  intro k
  induction k with
  | zero =>
    intro _ hq
    refine sm_112_66 h1 h3 (am_ift (by decide) hq)
  | succ k ih =>
    intro hk hq
    have e : Int32.ofNat (k + 1) - 1 = Int32.ofNat k := by rw [← nz_succ, Int32.add_sub_cancel]
    rw [e]
    refine sm_112_66 h1 h3 (am_iff (by rw [nz_lt, nz_n k (by omega)]; have : (0 : Int32).toInt = 0 := rfl; omega) ⟨hs, ?_⟩)
    have es : Int32.ofNat k + -1 = Int32.ofNat k - 1 := by grind
    rw [es]
    simp only [dnF] at hq
    by_cases c : W < (h 61 1 + h 8 s.toNatClampNeg * (Int32.ofNat k / 10)) + h 12 1
    · refine am_ift c (ih (by omega) ?_)
      have ec : ldF W (h 61 1) (h 8 s.toNatClampNeg) (h 12 1) k = true := decide_eq_true c
      rw [if_pos ec] at hq
      exact hq
    · refine am_iff c ?_
      have ec : ¬ ldF W (h 61 1) (h 8 s.toNatClampNeg) (h 12 1) k = true := by unfold ldF; rw [decide_eq_true_eq]; exact c
      rw [if_neg ec, e] at hq
      exact hq
end
