/-! ===== small numbers ===== -/
theorem nz_add {a b : Int32} (h1 : -2147483648 ≤ a.toInt + b.toInt) (h2 : a.toInt + b.toInt < 2147483648) : (a + b).toInt = a.toInt + b.toInt := by
  rw [Int32.toInt_add]
  exact Int.bmod_eq_of_le (by omega) (by omega)
theorem nz_sub {a b : Int32} (h1 : -2147483648 ≤ a.toInt - b.toInt) (h2 : a.toInt - b.toInt < 2147483648) : (a - b).toInt = a.toInt - b.toInt := by
  rw [Int32.toInt_sub]
  exact Int.bmod_eq_of_le (by omega) (by omega)
theorem nz_mul {a b : Int32} (h1 : -2147483648 ≤ a.toInt * b.toInt) (h2 : a.toInt * b.toInt < 2147483648) : (a * b).toInt = a.toInt * b.toInt := by
  rw [Int32.toInt_mul]
  exact Int.bmod_eq_of_le (by omega) (by omega)
theorem nz_div {a b : Int32} (ha : 0 ≤ a.toInt) (hb : 0 ≤ b.toInt) : (a / b).toInt = a.toInt / b.toInt := by
  rw [Int32.toInt_div, Int.tdiv_eq_ediv_of_nonneg ha]
  have h1 : 0 ≤ a.toInt / b.toInt := Int.ediv_nonneg ha hb
  have h2 : a.toInt / b.toInt ≤ a.toInt := Int.ediv_le_self _ ha
  have h3 := a.toInt_lt
  exact Int.bmod_eq_of_le (by omega) (by omega)
theorem nz_n (k : Nat) (h : k < 2147483648) : (Int32.ofNat k).toInt = (k : Int) := Int32.toInt_ofNat_of_lt h
theorem nz_c (k : Nat) (h : k < 2147483648) : (Int32.ofNat k).toNatClampNeg = k := Int32.toNatClampNeg_ofNat_of_lt h
theorem nz_lt {x y : Int32} : x < y ↔ x.toInt < y.toInt := Int32.lt_iff_toInt_lt
theorem nz_le {x y : Int32} : x ≤ y ↔ x.toInt ≤ y.toInt := Int32.le_iff_toInt_le
theorem nz_eq {x y : Int32} : x = y ↔ x.toInt = y.toInt := Int32.toInt_inj.symm
theorem nz_b (x : Int32) : -2147483648 ≤ x.toInt ∧ x.toInt < 2147483648 := ⟨x.le_toInt, x.toInt_lt⟩
theorem nz_cn (x : Int32) : x.toNatClampNeg = x.toInt.toNat := rfl
theorem nz_of {x : Int32} (h : 0 ≤ x.toInt) : x = Int32.ofNat x.toNatClampNeg := by
  have := nz_b x
  rw [nz_eq, nz_n _ (by rw [nz_cn]; omega), nz_cn]
  omega
theorem nz_inj {a b : Nat} (ha : a < 2147483648) (hb : b < 2147483648) : Int32.ofNat a = Int32.ofNat b ↔ a = b := by
  rw [nz_eq, nz_n a ha, nz_n b hb]
  omega
theorem nz_nlt {a b : Nat} (ha : a < 2147483648) (hb : b < 2147483648) : Int32.ofNat a < Int32.ofNat b ↔ a < b := by
  rw [nz_lt, nz_n a ha, nz_n b hb]
  omega
theorem nz_succ (k : Nat) : Int32.ofNat k + 1 = Int32.ofNat (k + 1) := (Int32.ofNat_add k 1).symm
theorem ix_n {k n : Nat} (hk : k < n) (hn : n < 2147483648) : am_ix (Int32.ofNat k) n := ⟨by
  rw [nz_lt, nz_n k (by omega)]
  show ¬ ((k : Int) < 0)
  omega, by rw [nz_c k (by omega)]; exact hk⟩
theorem ix_of {x : Int32} {n : Nat} (h0 : 0 ≤ x.toInt) (h1 : x.toInt < n) : am_ix x n := ⟨by
  rw [nz_lt]
  show ¬ (x.toInt < 0)
  omega, by rw [nz_cn]; omega⟩
theorem nz_l0 : (0 : Int32).toInt = 0 := rfl
theorem ix_l {x : Int32} (n : Nat) (hn : n < 2147483648) (h0 : ¬ x < 0) (h1 : x < Int32.ofNat n) : am_ix x n := by
  refine ⟨h0, ?_⟩
  rw [nz_lt, nz_n n hn] at h1
  rw [nz_lt] at h0
  have e : (0 : Int32).toInt = 0 := rfl
  rw [nz_cn]
  omega
theorem ix_5 {x : Int32} (h0 : ¬ x < 0) (h1 : x < 5) : am_ix x 5 := ix_l 5 (by decide) h0 h1
theorem ix_10 {x : Int32} (h0 : ¬ x < 0) (h1 : x < 10) : am_ix x 10 := ix_l 10 (by decide) h0 h1
theorem ix_80 {x : Int32} (h0 : ¬ x < 0) (h1 : x < 80) : am_ix x 80 := ix_l 80 (by decide) h0 h1
theorem ix_500 {x : Int32} (h0 : ¬ x < 0) (h1 : x < 500) : am_ix x 500 := ix_l 500 (by decide) h0 h1
/-! ===== what a method gives ===== -/
/-- the method returns w and leaves h1 -/
def mv (k mi : Nat) (lv : am_V) (h : am_M) (w : Option Value) (h1 : am_M) : Prop := ∀ (d L : Nat) (xs : Nat → Int32) (o : am_L) (g : Nat) (Q : Option Value → am_M → am_L → Nat → Prop) (T : Nat → am_M → am_L → Nat → Prop), Q w h1 o g → am_X L xs (d + k) mi 0 lv [] am_C0 h o g Q T
/-- the method throws E and leaves h1 -/
def mt (k mi : Nat) (lv : am_V) (h : am_M) (E : Nat) (h1 : am_M) : Prop := ∀ (d L : Nat) (xs : Nat → Int32) (o : am_L) (g : Nat) (Q : Option Value → am_M → am_L → Nat → Prop) (T : Nat → am_M → am_L → Nat → Prop), T E h1 o (g + 1) → am_X L xs (d + k) mi 0 lv [] am_C0 h o g Q T
section
variable {L : Nat} {xs : Nat → Int32} {d k mi : Nat} {lv : am_V} {h h1 : am_M} {o : am_L} {g : Nat} {Q : Option Value → am_M → am_L → Nat → Prop} {T : Nat → am_M → am_L → Nat → Prop} {w : Option Value} {E : Nat}
theorem mv.use (H : mv k mi lv h w h1) (hq : Q w h1 o g) : am_X L xs (d + k) mi 0 lv [] am_C0 h o g Q T := H d L xs o g Q T hq
theorem mt.use (H : mt k mi lv h E h1) (hq : T E h1 o (g + 1)) : am_X L xs (d + k) mi 0 lv [] am_C0 h o g Q T := H d L xs o g Q T hq
theorem mv.more (H : mv k mi lv h w h1) (j : Nat) : mv (k + j) mi lv h w h1 := fun d L xs o g Q T hq => by
  have := H (d + j) L xs o g Q T hq
  rw [show d + j + k = d + (k + j) by omega] at this
  exact this
theorem mt.more (H : mt k mi lv h E h1) (j : Nat) : mt (k + j) mi lv h E h1 := fun d L xs o g Q T hq => by
  have := H (d + j) L xs o g Q T hq
  rw [show d + j + k = d + (k + j) by omega] at this
  exact this
end
/-- a class method's end: its value, or its throw -/
def mr (k mi : Nat) (lv : am_V) (h : am_M) (c : Nat) (v : Int32) (h1 : am_M) : Prop := if c = 0 then mv k mi lv h (some (.int v)) h1 else mt k mi lv h (c - 1) h1
/-! ===== reading the heap ===== -/
theorem as_self (h : am_M) (k j : Nat) (x : Int32) : am_set h k j x k j = x := by simp [am_set, va_up, upd]
theorem as_cell (h : am_M) {k k' : Nat} (j : Nat) (x : Int32) (e : k' ≠ k) : am_set h k j x k' = h k' := by
  funext i
  simp [am_set, va_up, e]
theorem as_slot (h : am_M) (k : Nat) {j j' : Nat} (x : Int32) (e : j' ≠ j) : am_set h k j x k j' = h k j' := by simp [am_set, va_up, upd, e]
theorem as_get (h : am_M) (k j : Nat) (x : Int32) (k' j' : Nat) : am_set h k j x k' j' = if k' = k ∧ j' = j then x else h k' j' := by
  by_cases e : k' = k
  · subst e
    by_cases e2 : j' = j
    · subst e2; simp [as_self]
    · rw [as_slot h _ _ e2, if_neg (by simp [e2])]
  · rw [as_cell h _ _ e, if_neg (by simp [e])]
theorem as_twice (h : am_M) (k j : Nat) (x y : Int32) : am_set (am_set h k j x) k j y = am_set h k j y := by
  funext k' j'
  simp only [as_get]
  split
  · rfl
  · rfl
theorem as_swap (h : am_M) {k k' j j' : Nat} (x y : Int32) (e : ¬ (k = k' ∧ j = j')) : am_set (am_set h k j x) k' j' y = am_set (am_set h k' j' y) k j x := by
  funext k2 j2
  simp only [as_get]
  by_cases h1 : k2 = k' ∧ j2 = j'
  · rw [if_pos h1]
    by_cases h2 : k2 = k ∧ j2 = j
    · exact absurd ⟨h2.1.symm.trans h1.1, h2.2.symm.trans h1.2⟩ e
    · rw [if_neg h2, if_pos h1]
  · rw [if_neg h1]
    by_cases h2 : k2 = k ∧ j2 = j
    · rw [if_pos h2, if_pos h2]
    · rw [if_neg h2, if_neg h2, if_neg h1]
