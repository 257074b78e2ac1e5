/-! ===== odds ===== -/
theorem rem_n {a b : Nat} (ha : a ≤ 1000) (hb : b ≤ 1000) (h0 : ¬ b = 0) : Int32.ofNat a - Int32.ofNat a / Int32.ofNat b * Int32.ofNat b = Int32.ofNat (a % b) := by
  have ea := nz_n a (by omega)
  have eb := nz_n b (by omega)
  have e1 : (Int32.ofNat a / Int32.ofNat b).toInt = ((a / b : Nat) : Int) := by
    rw [nz_div (by rw [ea]; omega) (by rw [eb]; omega), ea, eb]
    exact (Int.natCast_ediv a b).symm
  have hm : a / b * b ≤ a := Nat.div_mul_le_self a b
  have e2 : (Int32.ofNat a / Int32.ofNat b * Int32.ofNat b).toInt = ((a / b * b : Nat) : Int) := by
    have : (Int32.ofNat a / Int32.ofNat b).toInt * (Int32.ofNat b).toInt = ((a / b * b : Nat) : Int) := by rw [e1, eb, Int.natCast_mul]
    rw [nz_mul (by rw [this]; omega) (by rw [this]; omega), this]
  have hd : b * (a / b) + a % b = a := Nat.div_add_mod a b
  rw [Nat.mul_comm] at hd
  rw [nz_eq, nz_sub (by rw [e2, ea]; omega) (by rw [e2, ea]; omega), e2, ea, nz_n _ (by have := Nat.mod_lt a (Nat.pos_of_ne_zero h0); omega)]
  omega
section
variable {L : Nat} {xs : Nat → Int32} {d : Nat} {h : am_M} {o : am_L} {g : Nat} {Q : Option Value → am_M → am_L → Nat → Prop} {T : Nat → am_M → am_L → Nat → Prop}
theorem z_ne {b : Nat} (hb : b ≤ 1000) (h0 : ¬ b = 0) : ¬ Int32.ofNat b = 0 := by
  show ¬ Int32.ofNat b = Int32.ofNat 0
  rw [nz_inj (by omega) (by decide)]
  exact h0
theorem lp_101 {q0 q1 : Option Value} (h0 : am_nl q0 = true) (h1 : am_nl q1 = true) : ∀ (m a b : Nat) (q5 : Option Value), am_nl q5 = true → m ≤ 100 → a ≤ 100 → b < m → Q (some (.int (Int32.ofNat (Nat.gcd b a)))) h o g → am_X L xs d 101 7 [q0, q1, some (.int (Int32.ofNat a)), some (.int (Int32.ofNat b)), some (.int (Int32.ofNat (100 - m))), q5] [] am_C0 h o g Q T := by
  intro m
  induction m with
  | zero => intro a b q5 _ _ _ hb; omega
  | succ m ih =>
    intro a b q5 h5 hm ha hb hq
    refine sm_101_7 h0 h1 h5 (am_ift ?_ ?_)
    · show Int32.ofNat (100 - (m + 1)) < Int32.ofNat 100
      rw [nz_nlt (by omega) (by decide)]; omega
    · by_cases c : b = 0
      · subst c
        rw [Nat.gcd_zero_left] at hq
        exact am_ift rfl hq
      · have cz := z_ne (show b ≤ 1000 by omega) c
        refine am_iff cz ⟨cz, ?_⟩
        rw [rem_n (by omega) (by omega) c, nz_succ, show 100 - (m + 1) + 1 = 100 - m by omega]
        have hr := Nat.mod_lt a (Nat.pos_of_ne_zero c)
        rw [Nat.gcd_rec] at hq
        exact ih b (a % b) _ rfl (by omega) (by omega) (by omega) hq
theorem mv_101 {a b : Nat} (ha : a ≤ 100) (hb : b < 100) : mv 0 101 [some (.int (Int32.ofNat a)), some (.int (Int32.ofNat b)), none, none, none, none] h (some (.int (Int32.ofNat (Nat.gcd b a)))) h := fun d L xs o g Q T hq => sm_101 (lp_101 rfl rfl 100 a b none rfl (by omega) ha hb hq)
theorem lp_191 {q0 q1 : Option Value} (h0 : am_nl q0 = true) (h1 : am_nl q1 = true) : ∀ (m a b : Nat) (q4 : Option Value), am_nl q4 = true → a ≤ 100 → b ≤ 100 → b < m → Q (some (.int (Int32.ofNat (Nat.gcd b a)))) h o g → am_X L xs d 191 4 [q0, q1, some (.int (Int32.ofNat a)), some (.int (Int32.ofNat b)), q4] [] am_C0 h o g Q T := by
  intro m
  induction m with
  | zero => intro a b q4 _ _ _ hb; omega
  | succ m ih =>
    intro a b q4 h4 ha hb' hb hq
    refine sm_191_4 h0 h1 h4 ?_
    by_cases c : b = 0
    · subst c
      rw [Nat.gcd_zero_left] at hq
      exact am_ift rfl hq
    · have cz := z_ne (show b ≤ 1000 by omega) c
      refine am_iff cz ⟨cz, ?_⟩
      rw [rem_n (by omega) (by omega) c]
      have hr := Nat.mod_lt a (Nat.pos_of_ne_zero c)
      rw [Nat.gcd_rec] at hq
      exact ih b (a % b) _ rfl (by omega) (by omega) (by omega) hq
theorem mv_191 {a b : Nat} (ha : a ≤ 100) (hb : b ≤ 100) : mv 0 191 [some (.int (Int32.ofNat a)), some (.int (Int32.ofNat b)), none, none, none] h (some (.int (Int32.ofNat (Nat.gcd b a)))) h := fun d L xs o g Q T hq => sm_191 (lp_191 rfl rfl 101 a b none rfl ha hb (by omega) hq)
end
