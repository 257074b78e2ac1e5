/-! ===== until ===== -/
theorem bt_m {z s m n : Int32} (z0 : ¬ z < 0) (z1 : ¬ 99 < z) (s0 : ¬ s < 0) (s1 : ¬ 9 < s) (m0 : ¬ m < 0) (hmn : ¬ n < m) (n1 : ¬ 9999 < n) : ¬ btm z s m < btm z s n := by
  have a := (bt_b z0 z1 s0 s1 m0 (show ¬ 9999 < m by grind)).2.2
  have b := (bt_b z0 z1 s0 s1 (show ¬ n < 0 by grind) n1).2.2
  rw [nz_lt] at s0 m0 hmn ⊢
  rw [a, b]
  have c0 : (0 : Int32).toInt = 0 := rfl
  have : s.toInt * m.toInt ≤ s.toInt * n.toInt := Int.mul_le_mul_of_nonneg_left (by omega) (by omega)
  split <;> split <;> omega
theorem lw_m {k z s t x m n : Int32} {q : Nat} (hn1 : q ≤ 100) (k0 : ¬ k < 0) (k2 : ¬ 2 < k) (t0 : ¬ t < 0) (t1 : ¬ 40 < t) (x0 : ¬ x < 0) (x1 : ¬ 500 < x) (z0 : ¬ z < 0) (z1 : ¬ 99 < z) (s0 : ¬ s < 0) (s1 : ¬ 9 < s) (m0 : ¬ m < 0) (hmn : ¬ n < m) (n1 : ¬ 9999 < n) : ¬ lwt k z s t x m q < lwt k z s t x n q := by
  have bm := bt_m z0 z1 s0 s1 m0 hmn n1
  have a := bt_b z0 z1 s0 s1 m0 (show ¬ 9999 < m by grind)
  have b := bt_b z0 z1 s0 s1 (show ¬ n < 0 by grind) n1
  have a1 := a.1
  have a2 := a.2.1
  have b1 := b.1
  have b2 := b.2.1
  have t6 := td_b (x := 6) t0 t1 (by decide) (by decide)
  obtain ⟨⟨m1, m2⟩, m3, m4⟩ := mn_b t0 t1 x0 x1 q hn1
  unfold lwt
  generalize btm z s m = B at a1 a2 bm
  generalize btm z s n = C at b1 b2 bm
  generalize mnT t x q = M at m1 m2
  split
  · grind
  · split <;> grind
/-- halving -/
def bsF (f : Nat → Bool) : Nat → Nat → Nat → Nat
  | 0, g, _ => g
  | m + 1, g, l => if g < l then (if f ((g + l + 1) / 2) = true then bsF f m g ((g + l + 1) / 2 - 1) else bsF f m ((g + l + 1) / 2) l) else g
theorem bs_eq {f : Nat → Bool} {D : Nat} (h1 : ∀ i, i ≤ D → f i = false) (h2 : ∀ i, D < i → i ≤ 9999 → f i = true) : ∀ m g l, g ≤ D → D ≤ l → l ≤ 9999 → l - g < 2 ^ m → bsF f m g l = D
  | 0, g, l, a, b, _, c => by simp only [bsF]; simp at c; omega
  | m + 1, g, l, a, b, e, c => by
    simp only [bsF]
    have p : 2 ^ (m + 1) = 2 * 2 ^ m := by rw [Nat.pow_succ, Nat.mul_comm]
    by_cases hl : g < l
    · rw [if_pos hl]
      by_cases hf : f ((g + l + 1) / 2) = true
      · rw [if_pos hf]
        have : D < (g + l + 1) / 2 := by
          apply Nat.lt_of_not_le
          intro hc
          rw [h1 _ hc] at hf
          cases hf
        exact bs_eq h1 h2 m g _ a (by omega) (by omega) (by omega)
      · rw [if_neg hf]
        have : (g + l + 1) / 2 ≤ D := by
          apply Nat.le_of_not_lt
          intro hc
          exact hf (h2 _ hc (by omega))
        exact bs_eq h1 h2 m _ l this b e (by omega)
    · rw [if_neg hl]; omega
theorem half {g l : Nat} (hg : g ≤ 9999) (hl : l ≤ 9999) : ((Int32.ofNat g + Int32.ofNat l) + 1) / 2 = Int32.ofNat ((g + l + 1) / 2) := by
  have e : (Int32.ofNat g + Int32.ofNat l) + 1 = Int32.ofNat (g + l + 1) := by rw [← Int32.ofNat_add, nz_succ]
  have e2 : (2 : Int32).toInt = 2 := rfl
  rw [e, nz_eq, nz_div (by rw [nz_n _ (by omega)]; omega) (by rw [e2]; decide), nz_n _ (by omega), nz_n _ (by omega), e2]
  omega
section
variable {L : Nat} {xs : Nat → Int32} {d : Nat} {h : am_M} {o : am_L} {g : Nat} {Q : Option Value → am_M → am_L → Nat → Prop} {T : Nat → am_M → am_L → Nat → Prop}
theorem lp_110 {s b need : Int32} {ns : Nat} (hns : ns ≤ 100) (hs : am_ix s 5) (hb : am_ix b 5) (ens : h 7 s.toNatClampNeg = Int32.ofNat ns) {q1 : Option Value} (hq1 : am_nl q1 = true) (f : Nat → Bool) (hf : ∀ n, n ≤ 9999 → f n = decide (lwt (h 9 b.toNatClampNeg) (h 10 b.toNatClampNeg) (h 11 b.toNatClampNeg) (h 12 0) (h 6 s.toNatClampNeg) (Int32.ofNat n) ns < need)) : ∀ (m gd l : Nat) (q9 : Option Value), am_nl q9 = true → m ≤ 14 → gd ≤ 9999 → l ≤ 9999 → Q (some (.int (Int32.ofNat (bsF f m gd l)))) h o g → am_X L xs (d + 2) 110 80 [some (.ref 0), q1, some (.int s), some (.int b), some (.int need), some (.int (h 6 s.toNatClampNeg)), some (.int (Int32.ofNat gd)), some (.int (Int32.ofNat l)), some (.int (Int32.ofNat (14 - m))), q9] [] am_C0 h o g Q T := by
  intro m
  induction m with
  | zero =>
    intro gd l q9 hq9 _ hg hl hq
    exact sm_110_80 hq1 hq9 (am_iff (by decide) hq)
  | succ m ih =>
    intro gd l q9 hq9 hm hg hl hq
    refine sm_110_80 hq1 hq9 (am_ift ?_ ?_)
    · show Int32.ofNat (14 - (m + 1)) < Int32.ofNat 14
      rw [nz_nlt (by omega) (by decide)]; omega
    · simp only [bsF] at hq
      by_cases c : gd < l
      · rw [if_pos c] at hq
        refine am_ift (by rw [nz_nlt (by omega) (by omega)]; exact c) ⟨hs, ?_⟩
        rw [half hg hl, ens]
        refine (mv_60 (h := h) (by omega) hb).use (sm_110_128 hq1 ?_)
        have e8 : Int32.ofNat (14 - (m + 1)) + 1 = Int32.ofNat (14 - m) := by rw [nz_succ]; congr 1; omega
        have e9 : Int32.ofNat ((gd + l + 1) / 2) - 1 = Int32.ofNat ((gd + l + 1) / 2 - 1) := by
          have : Int32.ofNat ((gd + l + 1) / 2) = Int32.ofNat ((gd + l + 1) / 2 - 1) + 1 := by rw [nz_succ]; congr 1; omega
          rw [this, Int32.add_sub_cancel]
        rw [e8, e9]
        have hfd := hf ((gd + l + 1) / 2) (by omega)
        by_cases c2 : lwt (h 9 b.toNatClampNeg) (h 10 b.toNatClampNeg) (h 11 b.toNatClampNeg) (h 12 0) (h 6 s.toNatClampNeg) (Int32.ofNat ((gd + l + 1) / 2)) ns < need
        · have : f ((gd + l + 1) / 2) = true := by rw [hfd]; exact decide_eq_true c2
          rw [if_pos this] at hq
          exact am_ift c2 (ih _ _ _ rfl (by omega) hg (by omega) hq)
        · have : ¬ f ((gd + l + 1) / 2) = true := by rw [hfd, decide_eq_true_eq]; exact c2
          rw [if_neg this] at hq
          exact am_iff c2 (ih _ _ _ rfl (by omega) (by omega) hl hq)
      · rw [if_neg c] at hq
        exact am_iff (by rw [nz_nlt (by omega) (by omega)]; exact c) hq
theorem lp_195 {s b : Int32} (hs : am_ix s 10) (hs5 : am_ix s 5) {q1 : Option Value} (h1 : am_nl q1 = true) (f : Nat → Bool) (hf : ∀ l, l < 10000 → mv 3 177 [some (.ref 64), some (.int s), some (.int b), some (.int (h 71 s.toNatClampNeg)), some (.int (Int32.ofNat l)), some (.int (h 77 s.toNatClampNeg))] h (some (.int (if f l = true then 0 else 1))) h) : ∀ m k, k + m = 10000 → Q (some (.int (Int32.ofNat (upF f k m) - 1))) h o g → am_X L xs (d + 4) 195 49 [some (.ref 64), q1, some (.int s), some (.int b), some (.int (Int32.ofNat k))] [] am_C0 h o g Q T := by
  intro m
  induction m with
  | zero =>
    intro k hk hq
    have : k = 10000 := by omega
    subst this
    exact sm_195_49 h1 (am_ift (by decide) hq)
  | succ m ih =>
    intro k hk hq
    refine sm_195_49 h1 (am_iff ?_ ⟨hs, hs5, (hf k (by omega)).use (sm_195_77 h1 ?_)⟩)
    · show ¬ Int32.ofNat 9999 < Int32.ofNat k
      rw [nz_nlt (by decide) (by omega)]; omega
    · rw [nz_succ k]
      simp only [upF] at hq
      by_cases c : f k = true
      · rw [if_pos c] at hq ⊢
        exact am_ift rfl hq
      · rw [if_neg c] at hq ⊢
        exact am_iff (by decide) (ih (k + 1) (by omega) hq)
end
