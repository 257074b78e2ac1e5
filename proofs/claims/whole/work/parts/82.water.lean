/-! ===== water ===== -/
def tdl (t x : Int32) : Int32 := t * (6 - (if 0 ≤ (x - x / 12 * 12) - 6 then (x - x / 12 * 12) - 6 else 0 - ((x - x / 12 * 12) - 6))) / 6
theorem td_r {x : Int32} (h0 : ¬ x < 0) (h1 : ¬ 1000 < x) : ∃ r : Nat, r < 12 ∧ x - x / 12 * 12 = Int32.ofNat r := by
  have e : 0 ≤ x.toInt := by rw [nz_lt] at h0; have : (0 : Int32).toInt = 0 := rfl; omega
  have e1 : x.toInt ≤ 1000 := by rw [nz_lt] at h1; have : (1000 : Int32).toInt = 1000 := rfl; omega
  have e12 : (12 : Int32).toInt = 12 := rfl
  have d1 : (x / 12).toInt = x.toInt / 12 := by rw [nz_div e (by rw [e12]; decide), e12]
  have d2 : (x / 12 * 12).toInt = x.toInt / 12 * 12 := by rw [nz_mul (by rw [d1, e12]; omega) (by rw [d1, e12]; omega), d1, e12]
  have d3 : (x - x / 12 * 12).toInt = x.toInt - x.toInt / 12 * 12 := by rw [nz_sub (by rw [d2]; omega) (by rw [d2]; omega), d2]
  refine ⟨(x.toInt % 12).toNat, by omega, ?_⟩
  rw [nz_eq, d3, nz_n _ (by omega)]
  omega
theorem td_u {x : Int32} (h0 : ¬ x < 0) (h1 : ¬ 1000 < x) : ∃ u : Nat, u ≤ 6 ∧ ∀ t, tdl t x = t * Int32.ofNat u / 6 := by
  obtain ⟨r, hr, e⟩ := td_r h0 h1
  unfold tdl
  rw [e]
  have : r = 0 ∨ r = 1 ∨ r = 2 ∨ r = 3 ∨ r = 4 ∨ r = 5 ∨ r = 6 ∨ r = 7 ∨ r = 8 ∨ r = 9 ∨ r = 10 ∨ r = 11 := by omega
  rcases this with h | h | h | h | h | h | h | h | h | h | h | h <;> subst h
  · exact ⟨0, by decide, fun t => rfl⟩
  · exact ⟨1, by decide, fun t => rfl⟩
  · exact ⟨2, by decide, fun t => rfl⟩
  · exact ⟨3, by decide, fun t => rfl⟩
  · exact ⟨4, by decide, fun t => rfl⟩
  · exact ⟨5, by decide, fun t => rfl⟩
  · exact ⟨6, by decide, fun t => rfl⟩
  · exact ⟨5, by decide, fun t => rfl⟩
  · exact ⟨4, by decide, fun t => rfl⟩
  · exact ⟨3, by decide, fun t => rfl⟩
  · exact ⟨2, by decide, fun t => rfl⟩
  · exact ⟨1, by decide, fun t => rfl⟩
theorem td_v {t : Int32} (t0 : ¬ t < 0) (t1 : ¬ 40 < t) {u : Nat} (hu : u ≤ 6) : (t * Int32.ofNat u / 6).toInt = t.toInt * u / 6 ∧ 0 ≤ t.toInt ∧ t.toInt ≤ 40 := by
  have e : 0 ≤ t.toInt := by rw [nz_lt] at t0; have : (0 : Int32).toInt = 0 := rfl; omega
  have e1 : t.toInt ≤ 40 := by rw [nz_lt] at t1; have : (40 : Int32).toInt = 40 := rfl; omega
  have e6 : (6 : Int32).toInt = 6 := rfl
  have hu' := nz_n u (by omega)
  have b0 : 0 ≤ t.toInt * (u : Int) := Int.mul_nonneg e (by omega)
  have b1 : t.toInt * (u : Int) ≤ 40 * 6 := Int.mul_le_mul e1 (by omega) (by omega) (by omega)
  have m : (t * Int32.ofNat u).toInt = t.toInt * u := by rw [nz_mul (by rw [hu']; omega) (by rw [hu']; omega), hu']
  refine ⟨?_, e, e1⟩
  rw [nz_div (by rw [m]; omega) (by rw [e6]; decide), m, e6]
/-- the tide lies between nothing and what it is at its height -/
theorem td_b {t x : Int32} (t0 : ¬ t < 0) (t1 : ¬ 40 < t) (h0 : ¬ x < 0) (h1 : ¬ 1000 < x) : ¬ tdl t x < 0 ∧ ¬ 40 < tdl t x ∧ ¬ tdl t 6 < tdl t x := by
  obtain ⟨u, hu, e⟩ := td_u h0 h1
  have e6 : tdl t 6 = t * Int32.ofNat 6 / 6 := rfl
  rw [e, e6]
  have a := td_v t0 t1 hu
  have b := td_v t0 t1 (u := 6) (by decide)
  have z0 : (0 : Int32).toInt = 0 := rfl
  have z40 : (40 : Int32).toInt = 40 := rfl
  have m1 : t.toInt * (u : Int) ≤ t.toInt * 6 := Int.mul_le_mul_of_nonneg_left (by omega) a.2.1
  have m0 : 0 ≤ t.toInt * (u : Int) := Int.mul_nonneg a.2.1 (by omega)
  rw [nz_lt, nz_lt, nz_lt, a.1, b.1, z0, z40]
  have : ((6 : Nat) : Int) = 6 := rfl
  omega
def btm (z s n : Int32) : Int32 := if 0 < z - s * n / 10 then z - s * n / 10 else 0
def mnT (t x : Int32) : Nat → Int32
  | 0 => tdl t 6
  | n + 1 => if tdl t (x + Int32.ofNat n) < mnT t x n then tdl t (x + Int32.ofNat n) else mnT t x n
/-- the least water of n hours -/
def lwt (k z s t x day : Int32) (n : Nat) : Int32 := if k = 2 then btm z s day + tdl t 6 else if k = 1 then (btm z s day + mnT t x n) + 2 else (btm z s day + mnT t x n) + 0
section
variable {L : Nat} {xs : Nat → Int32} {d : Nat} {h : am_M} {o : am_L} {g : Nat} {Q : Option Value → am_M → am_L → Nat → Prop} {T : Nat → am_M → am_L → Nat → Prop}
theorem lp_60 {b x y : Int32} {n : Nat} (hn : n ≤ 1000) (hb : am_ix b 5) {q4 : Option Value} (hq4 : am_nl q4 = true) : ∀ (m k : Nat), k + m = n → (if h 9 b.toNatClampNeg = 1 then Q (some (.int (y + mnT (h 12 0) x n + 2))) h o g else Q (some (.int (y + mnT (h 12 0) x n + 0))) h o g) → am_X L xs (d + 1) 60 52 [some (.ref 3), some (.int b), some (.int x), some (.int (Int32.ofNat n)), q4, some (.int y), some (.int (mnT (h 12 0) x k)), some (.int (Int32.ofNat k))] [] am_C0 h o g Q T := by
  intro m
  induction m with
  | zero =>
    intro k hk hq
    have : k = n := by omega
    subst this
    exact sm_60_52 hq4 (am_iff (by rw [nz_nlt (by omega) (by omega)]; omega) ⟨hb, hq⟩)
  | succ m ih =>
    intro k hk hq
    have IH := ih (k + 1) (by omega) hq
    refine sm_60_52 hq4 (am_ift (by rw [nz_nlt (by omega) (by omega)]; omega) ?_)
    rw [nz_succ k]
    exact IH
theorem mv_60 {b x day : Int32} {n : Nat} (hn : n ≤ 1000) (hb : am_ix b 5) : mv 1 60 [some (.ref 3), some (.int b), some (.int x), some (.int (Int32.ofNat n)), some (.int day), none, none, none] h (some (.int (lwt (h 9 b.toNatClampNeg) (h 10 b.toNatClampNeg) (h 11 b.toNatClampNeg) (h 12 0) x day n))) h := fun d L xs o g Q T hq => by
  refine sm_60 ⟨hb, ?_⟩
  unfold lwt at hq
  by_cases k2 : h 9 b.toNatClampNeg = 2
  · rw [if_pos k2] at hq ⊢
    exact hq
  · rw [if_neg k2] at hq ⊢
    refine lp_60 (y := btm (h 10 b.toNatClampNeg) (h 11 b.toNatClampNeg) day) hn hb rfl n 0 (by omega) ?_
    by_cases k1 : h 9 b.toNatClampNeg = 1
    · rw [if_pos k1] at hq ⊢; exact hq
    · rw [if_neg k1] at hq ⊢; exact hq
end
