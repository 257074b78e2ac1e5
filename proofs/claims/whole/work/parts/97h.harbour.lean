/-! ===== harbour ===== -/
def cdH (c : Nat) : Int32 := if c = 0 then 0 else 1
def xH (k j : Nat) : Bool := xD k j || ((Nat.beq k 33 && Nat.beq j 0) || ((Nat.beq k 78 && Nat.beq j 0) || ((Nat.beq k 64 && (Nat.beq j 3 || (Nat.ble 18 j && Nat.ble j 27))) || xN k j)))
theorem xD_H {k j : Nat} (h : xD k j = true) : xH k j = true := by unfold xH; rw [h]; rfl
theorem xN_H {k j : Nat} (h : xN k j = true) : xH k j = true := by unfold xH; rw [h]; simp
theorem x68_H {k j : Nat} (h : x68 k j = true) : xH k j = true := by
  apply xN_H
  unfold x68 at h
  unfold xN
  rw [h]
  simp
theorem b5 {j : Nat} (hj : j < 5) : Nat.ble 5 j = false := by
  cases hc : Nat.ble 5 j with
  | false => rfl
  | true => rw [Nat.ble_eq] at hc; omega
/-- a text with a fault -/
theorem Iv_flt {h h2 : am_M} (hI : Iv h) (f : fr xH h h2) (t0 : h2 1 0 = 0) (t1 : h2 64 18 = 0) (t2 : h2 1 1 = h2 64 27) (j0 : h2 33 0 = h 33 0 + 1) (j1 : h2 78 0 = h 78 0 + 1) : Iv h2 := by
  have e2 := f.cell 2 (fun _ => rfl)
  have e4 := f.cell 4 (fun _ => rfl)
  have e5 := f.cell 5 (fun _ => rfl)
  have e6 := f.cell 6 (fun _ => rfl)
  have e7 := f.cell 7 (fun _ => rfl)
  have e8 := f.cell 8 (fun _ => rfl)
  have e9 := f.cell 9 (fun _ => rfl)
  have e10 := f.cell 10 (fun _ => rfl)
  have e11 := f.cell 11 (fun _ => rfl)
  have e12 := f.cell 12 (fun _ => rfl)
  have e24 := f.cell 24 (fun _ => rfl)
  have e25 := f.cell 25 (fun _ => rfl)
  have e26 := f.cell 26 (fun _ => rfl)
  have e27 := f.cell 27 (fun _ => rfl)
  have e28 := f.cell 28 (fun _ => rfl)
  have e29 := f.cell 29 (fun _ => rfl)
  have e30 := f.cell 30 (fun _ => rfl)
  have e31 := f.cell 31 (fun _ => rfl)
  have e32 := f.cell 32 (fun _ => rfl)
  have e35 := f.cell 35 (fun _ => rfl)
  have e36 := f.cell 36 (fun _ => rfl)
  have e37 := f.cell 37 (fun _ => rfl)
  have e38 := f.cell 38 (fun _ => rfl)
  have e39 := f.cell 39 (fun _ => rfl)
  have e40 := f.cell 40 (fun _ => rfl)
  have e41 := f.cell 41 (fun _ => rfl)
  have e42 := f.cell 42 (fun _ => rfl)
  have e43 := f.cell 43 (fun _ => rfl)
  have e44 := f.cell 44 (fun _ => rfl)
  have e62 := f.cell 62 (fun _ => rfl)
  have e63 := f.cell 63 (fun _ => rfl)
  have e67 := f.cell 67 (fun _ => rfl)
  have e77 := f.cell 77 (fun _ => rfl)
  have e79 := f.cell 79 (fun _ => rfl)
  have e80 := f.cell 80 (fun _ => rfl)
  have e81 := f.cell 81 (fun _ => rfl)
  have e82 := f.cell 82 (fun _ => rfl)
  have e83 := f.cell 83 (fun _ => rfl)
  have e84 := f.cell 84 (fun _ => rfl)
  have e85 := f.cell 85 (fun _ => rfl)
  have e86 := f.cell 86 (fun _ => rfl)
  have e87 := f.cell 87 (fun _ => rfl)
  have e93 := f.cell 93 (fun _ => rfl)
  have e94 := f.cell 94 (fun _ => rfl)
  have e98 := f.cell 98 (fun _ => rfl)
  have e99 := f.cell 99 (fun _ => rfl)
  have e100 := f.cell 100 (fun _ => rfl)
  have e101 := f.cell 101 (fun _ => rfl)
  have e102 := f.cell 102 (fun _ => rfl)
  have e103 := f.cell 103 (fun _ => rfl)
  have e104 := f.cell 104 (fun _ => rfl)
  have e105 := f.cell 105 (fun _ => rfl)
  have e106 := f.cell 106 (fun _ => rfl)
  have e107 := f.cell 107 (fun _ => rfl)
  have s0_5 := f 0 5 rfl
  have s0_11 := f 0 11 rfl
  have s3_0 := f 3 0 rfl
  have s3_1 := f 3 1 rfl
  have s3_2 := f 3 2 rfl
  have s23_0 := f 23 0 rfl
  have s34_0 := f 34 0 rfl
  have s64_28 := f 64 28 rfl
  have s64_45 := f 64 45 rfl
  have s64_51 := f 64 51 rfl
  have s64_52 := f 64 52 rfl
  have s68_0 := f 68 0 rfl
  have s68_1 := f 68 1 rfl
  have s68_2 := f 68 2 rfl
  have s68_3 := f 68 3 rfl
  have s68_4 := f 68 4 rfl
  have s68_5 := f 68 5 rfl
  have s68_6 := f 68 6 rfl
  have s33_1 := f 33 1 rfl
  have s33_2 := f 33 2 rfl
  have s78_1 := f 78 1 rfl
  have s78_2 := f 78 2 rfl
  have d69 : ∀ k, (69 ≤ k ∧ k ≤ 76) → ∀ j, j < 5 → h2 k j = h k j := fun k hk j hj => f k j (by
    have b := b5 hj
    have e : k = 69 ∨ k = 70 ∨ k = 71 ∨ k = 72 ∨ k = 73 ∨ k = 74 ∨ k = 75 ∨ k = 76 := by omega
    unfold xH xD xC xN
    rw [b]
    rcases e with e | e | e | e | e | e | e | e <;> subst e <;> rfl)
  obtain ⟨a1, a2, a3, a4, a5, a6⟩ := hI
  refine ⟨?_, ?_, ?_, ?_, ?_, ?_⟩
  · unfold iv_T
    rw [t0, t1]
    exact ⟨rfl, by decide, by decide, t2, fun j hj hlt => absurd hlt (nat_n0 (by omega))⟩
  · obtain ⟨b1, b2, b3, b4⟩ := a2
    unfold iv_P
    simp only [e2, e4, e5, e6, e7, e8, e9, e10, e11, e12, e24, e25, e26, e27, e28, e29, e30, e31, e32, e35, e36, e37, e38, e39, e40, e41, e42, e43, e44, e62, e63, e67, e77, e79, e80, e81, e82, e83, e84, e85, e86, e87, e93, e94, e98, e99, e100, e101, e102, e103, e104, e105, e106, e107, s0_5, s0_11, s3_0, s3_1, s3_2, s23_0, s34_0, s64_28, s64_45, s64_51, s64_52, s68_0, s68_1, s68_2, s68_3, s68_4, s68_5, s68_6, s33_1, s33_2, s78_1, s78_2]
    refine ⟨b1, b2, fun j hj hlt => ?_, fun j hj hlt => ?_⟩
    · have := b3 j hj hlt
      unfold iv_S at this ⊢
      simp only [e2, e4, e5, e6, e7, e8, e9, e10, e11, e12, e24, e25, e26, e27, e28, e29, e30, e31, e32, e35, e36, e37, e38, e39, e40, e41, e42, e43, e44, e62, e63, e67, e77, e79, e80, e81, e82, e83, e84, e85, e86, e87, e93, e94, e98, e99, e100, e101, e102, e103, e104, e105, e106, e107, s0_5, s0_11, s3_0, s3_1, s3_2, s23_0, s34_0, s64_28, s64_45, s64_51, s64_52, s68_0, s68_1, s68_2, s68_3, s68_4, s68_5, s68_6, s33_1, s33_2, s78_1, s78_2, d69 69 (by decide) j hj, d69 70 (by decide) j hj, d69 71 (by decide) j hj, d69 72 (by decide) j hj, d69 73 (by decide) j hj]
      exact this
    · have := b4 j hj hlt
      unfold iv_B at this ⊢
      simp only [e2, e4, e5, e6, e7, e8, e9, e10, e11, e12, e24, e25, e26, e27, e28, e29, e30, e31, e32, e35, e36, e37, e38, e39, e40, e41, e42, e43, e44, e62, e63, e67, e77, e79, e80, e81, e82, e83, e84, e85, e86, e87, e93, e94, e98, e99, e100, e101, e102, e103, e104, e105, e106, e107, s0_5, s0_11, s3_0, s3_1, s3_2, s23_0, s34_0, s64_28, s64_45, s64_51, s64_52, s68_0, s68_1, s68_2, s68_3, s68_4, s68_5, s68_6, s33_1, s33_2, s78_1, s78_2, d69 74 (by decide) j hj, d69 75 (by decide) j hj, d69 76 (by decide) j hj]
      exact this
  · obtain ⟨N, hN, q1, q2, hE, hG, hJ, hS⟩ := a3
    unfold iv_N
    simp only [e2, e4, e5, e6, e7, e8, e9, e10, e11, e12, e24, e25, e26, e27, e28, e29, e30, e31, e32, e35, e36, e37, e38, e39, e40, e41, e42, e43, e44, e62, e63, e67, e77, e79, e80, e81, e82, e83, e84, e85, e86, e87, e93, e94, e98, e99, e100, e101, e102, e103, e104, e105, e106, e107, s0_5, s0_11, s3_0, s3_1, s3_2, s23_0, s34_0, s64_28, s64_45, s64_51, s64_52, s68_0, s68_1, s68_2, s68_3, s68_4, s68_5, s68_6, s33_1, s33_2, s78_1, s78_2]
    refine ⟨N, hN, q1, q2, hE, hG, ⟨?_, ?_, ?_⟩, hS⟩
    · rw [j0, j1, hJ.1]
    · rw [s78_1, s33_1]; exact hJ.2.1
    · rw [s78_2, s33_2]; exact hJ.2.2
  · have e44 := f.cell 44 (fun _ => rfl)
    unfold iv_I at a4 ⊢
    simp only [e2, e4, e5, e6, e7, e8, e9, e10, e11, e12, e24, e25, e26, e27, e28, e29, e30, e31, e32, e35, e36, e37, e38, e39, e40, e41, e42, e43, e44, e62, e63, e67, e77, e79, e80, e81, e82, e83, e84, e85, e86, e87, e93, e94, e98, e99, e100, e101, e102, e103, e104, e105, e106, e107, s0_5, s0_11, s3_0, s3_1, s3_2, s23_0, s34_0, s64_28, s64_45, s64_51, s64_52, s68_0, s68_1, s68_2, s68_3, s68_4, s68_5, s68_6, s33_1, s33_2, s78_1, s78_2]
    exact a4
  · unfold iv_R at a5 ⊢
    simp only [e2, e4, e5, e6, e7, e8, e9, e10, e11, e12, e24, e25, e26, e27, e28, e29, e30, e31, e32, e35, e36, e37, e38, e39, e40, e41, e42, e43, e44, e62, e63, e67, e77, e79, e80, e81, e82, e83, e84, e85, e86, e87, e93, e94, e98, e99, e100, e101, e102, e103, e104, e105, e106, e107, s0_5, s0_11, s3_0, s3_1, s3_2, s23_0, s34_0, s64_28, s64_45, s64_51, s64_52, s68_0, s68_1, s68_2, s68_3, s68_4, s68_5, s68_6, s33_1, s33_2, s78_1, s78_2]
    exact a5
  · unfold iv_K at a6 ⊢
    simp only [e2, e4, e5, e6, e7, e8, e9, e10, e11, e12, e24, e25, e26, e27, e28, e29, e30, e31, e32, e35, e36, e37, e38, e39, e40, e41, e42, e43, e44, e62, e63, e67, e77, e79, e80, e81, e82, e83, e84, e85, e86, e87, e93, e94, e98, e99, e100, e101, e102, e103, e104, e105, e106, e107, s0_5, s0_11, s3_0, s3_1, s3_2, s23_0, s34_0, s64_28, s64_45, s64_51, s64_52, s68_0, s68_1, s68_2, s68_3, s68_4, s68_5, s68_6, s33_1, s33_2, s78_1, s78_2]
    exact a6
theorem cpy_at {f g : Nat → Int32} {j n : Nat} (hj : j < n) : va_cpy f g 0 0 n j = f j := by
  unfold va_cpy
  rw [if_pos ⟨Nat.zero_le _, by omega⟩]
  congr 1
  omega
theorem as_lo (h : am_M) {k k' : Nat} (j j' : Nat) (x : Int32) (e : ¬ k' = k) : am_set h k j x k' j' = h k' j' := by rw [as_get, if_neg (fun q => e q.1)]
theorem cp_get (h : am_M) (k0 k1 a b n k j : Nat) : am_cpy h k0 k1 a b n k j = if k = k1 then va_cpy (h k0) (h k1) a b n j else h k j := by
  unfold am_cpy va_up
  split <;> rfl
theorem cp_cell (h : am_M) {k0 k1 a b n k : Nat} (e : k ≠ k1) : am_cpy h k0 k1 a b n k = h k := by
  funext j
  rw [cp_get, if_neg e]
theorem mS_k (h : am_M) {k : Nat} (hk : ¬ (k = 64 ∨ (68 ≤ k ∧ k ≤ 77) ∨ k = 79 ∨ k = 80)) (j : Nat) : (mS h) k j = h k j := by
  have q64 : ¬ k = 64 := by omega
  have q68 : ¬ k = 68 := by omega
  have q69 : ¬ k = 69 := by omega
  have q70 : ¬ k = 70 := by omega
  have q71 : ¬ k = 71 := by omega
  have q72 : ¬ k = 72 := by omega
  have q73 : ¬ k = 73 := by omega
  have q74 : ¬ k = 74 := by omega
  have q75 : ¬ k = 75 := by omega
  have q76 : ¬ k = 76 := by omega
  have q77 : ¬ k = 77 := by omega
  have q79 : ¬ k = 79 := by omega
  have q80 : ¬ k = 80 := by omega
  unfold mS
  simp only [as_lo _ _ _ _ q64, as_lo _ _ _ _ q68, as_lo _ _ _ _ q69, as_lo _ _ _ _ q70, as_lo _ _ _ _ q71, as_lo _ _ _ _ q72, as_lo _ _ _ _ q73, as_lo _ _ _ _ q74, as_lo _ _ _ _ q75, as_lo _ _ _ _ q76, as_lo _ _ _ _ q77, as_lo _ _ _ _ q79, as_lo _ _ _ _ q80]
theorem mS_68_0 (h : am_M) : (mS h) 68 0 = h 68 7 := by simp [mS, as_get]
theorem mS_68_1 (h : am_M) : (mS h) 68 1 = h 68 8 := by simp [mS, as_get]
theorem mS_68_2 (h : am_M) : (mS h) 68 2 = h 68 9 := by simp [mS, as_get]
theorem mS_68_3 (h : am_M) : (mS h) 68 3 = h 68 10 := by simp [mS, as_get]
theorem mS_68_4 (h : am_M) : (mS h) 68 4 = h 68 11 := by simp [mS, as_get]
theorem mS_68_5 (h : am_M) : (mS h) 68 5 = h 68 12 := by simp [mS, as_get]
theorem mS_68_6 (h : am_M) : (mS h) 68 6 = h 68 13 := by simp [mS, as_get]
theorem mS_69_0 (h : am_M) : (mS h) 69 0 = h 69 5 := by simp [mS, as_get]
theorem mS_69_1 (h : am_M) : (mS h) 69 1 = h 69 6 := by simp [mS, as_get]
theorem mS_69_2 (h : am_M) : (mS h) 69 2 = h 69 7 := by simp [mS, as_get]
theorem mS_69_3 (h : am_M) : (mS h) 69 3 = h 69 8 := by simp [mS, as_get]
theorem mS_69_4 (h : am_M) : (mS h) 69 4 = h 69 9 := by simp [mS, as_get]
theorem mS_70_0 (h : am_M) : (mS h) 70 0 = h 70 5 := by simp [mS, as_get]
theorem mS_70_1 (h : am_M) : (mS h) 70 1 = h 70 6 := by simp [mS, as_get]
theorem mS_70_2 (h : am_M) : (mS h) 70 2 = h 70 7 := by simp [mS, as_get]
theorem mS_70_3 (h : am_M) : (mS h) 70 3 = h 70 8 := by simp [mS, as_get]
theorem mS_70_4 (h : am_M) : (mS h) 70 4 = h 70 9 := by simp [mS, as_get]
theorem mS_71_0 (h : am_M) : (mS h) 71 0 = h 71 5 := by simp [mS, as_get]
theorem mS_71_1 (h : am_M) : (mS h) 71 1 = h 71 6 := by simp [mS, as_get]
theorem mS_71_2 (h : am_M) : (mS h) 71 2 = h 71 7 := by simp [mS, as_get]
theorem mS_71_3 (h : am_M) : (mS h) 71 3 = h 71 8 := by simp [mS, as_get]
theorem mS_71_4 (h : am_M) : (mS h) 71 4 = h 71 9 := by simp [mS, as_get]
theorem mS_72_0 (h : am_M) : (mS h) 72 0 = h 72 5 := by simp [mS, as_get]
theorem mS_72_1 (h : am_M) : (mS h) 72 1 = h 72 6 := by simp [mS, as_get]
theorem mS_72_2 (h : am_M) : (mS h) 72 2 = h 72 7 := by simp [mS, as_get]
theorem mS_72_3 (h : am_M) : (mS h) 72 3 = h 72 8 := by simp [mS, as_get]
theorem mS_72_4 (h : am_M) : (mS h) 72 4 = h 72 9 := by simp [mS, as_get]
theorem mS_73_0 (h : am_M) : (mS h) 73 0 = h 73 5 := by simp [mS, as_get]
theorem mS_73_1 (h : am_M) : (mS h) 73 1 = h 73 6 := by simp [mS, as_get]
theorem mS_73_2 (h : am_M) : (mS h) 73 2 = h 73 7 := by simp [mS, as_get]
theorem mS_73_3 (h : am_M) : (mS h) 73 3 = h 73 8 := by simp [mS, as_get]
theorem mS_73_4 (h : am_M) : (mS h) 73 4 = h 73 9 := by simp [mS, as_get]
theorem mS_74_0 (h : am_M) : (mS h) 74 0 = h 74 5 := by simp [mS, as_get]
theorem mS_74_1 (h : am_M) : (mS h) 74 1 = h 74 6 := by simp [mS, as_get]
theorem mS_74_2 (h : am_M) : (mS h) 74 2 = h 74 7 := by simp [mS, as_get]
theorem mS_74_3 (h : am_M) : (mS h) 74 3 = h 74 8 := by simp [mS, as_get]
theorem mS_74_4 (h : am_M) : (mS h) 74 4 = h 74 9 := by simp [mS, as_get]
theorem mS_75_0 (h : am_M) : (mS h) 75 0 = h 75 5 := by simp [mS, as_get]
theorem mS_75_1 (h : am_M) : (mS h) 75 1 = h 75 6 := by simp [mS, as_get]
theorem mS_75_2 (h : am_M) : (mS h) 75 2 = h 75 7 := by simp [mS, as_get]
theorem mS_75_3 (h : am_M) : (mS h) 75 3 = h 75 8 := by simp [mS, as_get]
theorem mS_75_4 (h : am_M) : (mS h) 75 4 = h 75 9 := by simp [mS, as_get]
theorem mS_76_0 (h : am_M) : (mS h) 76 0 = h 76 5 := by simp [mS, as_get]
theorem mS_76_1 (h : am_M) : (mS h) 76 1 = h 76 6 := by simp [mS, as_get]
theorem mS_76_2 (h : am_M) : (mS h) 76 2 = h 76 7 := by simp [mS, as_get]
theorem mS_76_3 (h : am_M) : (mS h) 76 3 = h 76 8 := by simp [mS, as_get]
theorem mS_76_4 (h : am_M) : (mS h) 76 4 = h 76 9 := by simp [mS, as_get]
theorem mS_77_0 (h : am_M) : (mS h) 77 0 = 0 := by simp [mS, as_get]
theorem mS_77_1 (h : am_M) : (mS h) 77 1 = 0 := by simp [mS, as_get]
theorem mS_77_2 (h : am_M) : (mS h) 77 2 = 0 := by simp [mS, as_get]
theorem mS_77_3 (h : am_M) : (mS h) 77 3 = 0 := by simp [mS, as_get]
theorem mS_77_4 (h : am_M) : (mS h) 77 4 = 0 := by simp [mS, as_get]
theorem mS_79_0 (h : am_M) : (mS h) 79 0 = 0 := by simp [mS, as_get]
theorem mS_79_1 (h : am_M) : (mS h) 79 1 = 0 := by simp [mS, as_get]
theorem mS_79_2 (h : am_M) : (mS h) 79 2 = 0 := by simp [mS, as_get]
theorem mS_79_3 (h : am_M) : (mS h) 79 3 = 0 := by simp [mS, as_get]
theorem mS_79_4 (h : am_M) : (mS h) 79 4 = 0 := by simp [mS, as_get]
theorem mS_80_0 (h : am_M) : (mS h) 80 0 = 60 := by simp [mS, as_get]
theorem mS_80_1 (h : am_M) : (mS h) 80 1 = 60 := by simp [mS, as_get]
theorem mS_80_2 (h : am_M) : (mS h) 80 2 = 60 := by simp [mS, as_get]
theorem mS_80_3 (h : am_M) : (mS h) 80 3 = 60 := by simp [mS, as_get]
theorem mS_80_4 (h : am_M) : (mS h) 80 4 = 60 := by simp [mS, as_get]
theorem mS_64_28 (h : am_M) : (mS h) 64 28 = 0 := by simp [mS, as_get]
theorem mS_64_45 (h : am_M) : (mS h) 64 45 = 0 := by simp [mS, as_get]
theorem mS_64_51 (h : am_M) : (mS h) 64 51 = 0 := by simp [mS, as_get]
theorem mS_64_3 (h : am_M) : (mS h) 64 3 = h 64 3 := by simp [mS, as_get]
theorem mS_64_18 (h : am_M) : (mS h) 64 18 = h 64 18 := by simp [mS, as_get]
theorem mS_64_27 (h : am_M) : (mS h) 64 27 = h 64 27 := by simp [mS, as_get]
theorem cS_3_0 (h : am_M) : (cS h) 3 0 = h 13 0 := by simp [cS, as_get, cp_get]
theorem cS_3_1 (h : am_M) : (cS h) 3 1 = h 13 1 := by simp [cS, as_get, cp_get]
theorem cS_3_2 (h : am_M) : (cS h) 3 2 = h 13 2 := by simp [cS, as_get, cp_get]
theorem cS_4 (h : am_M) {j : Nat} (hj : j < 5) : (cS h) 4 j = h 14 j := by simp [cS, as_get, cp_get, as_cell, cp_cell, cpy_at hj]
theorem cS_5 (h : am_M) {j : Nat} (hj : j < 5) : (cS h) 5 j = h 15 j := by simp [cS, as_get, cp_get, as_cell, cp_cell, cpy_at hj]
theorem cS_6 (h : am_M) {j : Nat} (hj : j < 5) : (cS h) 6 j = h 16 j := by simp [cS, as_get, cp_get, as_cell, cp_cell, cpy_at hj]
theorem cS_7 (h : am_M) {j : Nat} (hj : j < 5) : (cS h) 7 j = h 17 j := by simp [cS, as_get, cp_get, as_cell, cp_cell, cpy_at hj]
theorem cS_8 (h : am_M) {j : Nat} (hj : j < 5) : (cS h) 8 j = h 18 j := by simp [cS, as_get, cp_get, as_cell, cp_cell, cpy_at hj]
theorem cS_9 (h : am_M) {j : Nat} (hj : j < 5) : (cS h) 9 j = h 19 j := by simp [cS, as_get, cp_get, as_cell, cp_cell, cpy_at hj]
theorem cS_10 (h : am_M) {j : Nat} (hj : j < 5) : (cS h) 10 j = h 20 j := by simp [cS, as_get, cp_get, as_cell, cp_cell, cpy_at hj]
theorem cS_11 (h : am_M) {j : Nat} (hj : j < 5) : (cS h) 11 j = h 21 j := by simp [cS, as_get, cp_get, as_cell, cp_cell, cpy_at hj]
theorem cS_12 (h : am_M) {j : Nat} (hj : j < 4) : (cS h) 12 j = h 22 j := by simp [cS, as_get, cp_get, as_cell, cp_cell, cpy_at hj]
theorem cS_30_0 (h : am_M) : (cS h) 30 0 = 0 := by simp [cS, as_get]
theorem cS_30_1 (h : am_M) : (cS h) 30 1 = 0 := by simp [cS, as_get]
theorem cS_30_2 (h : am_M) : (cS h) 30 2 = 0 := by simp [cS, as_get]
theorem cS_30_3 (h : am_M) : (cS h) 30 3 = 0 := by simp [cS, as_get]
theorem cS_30_4 (h : am_M) : (cS h) 30 4 = 0 := by simp [cS, as_get]
theorem cS_31_0 (h : am_M) : (cS h) 31 0 = 0 := by simp [cS, as_get]
theorem cS_31_1 (h : am_M) : (cS h) 31 1 = 0 := by simp [cS, as_get]
theorem cS_31_2 (h : am_M) : (cS h) 31 2 = 0 := by simp [cS, as_get]
theorem cS_31_3 (h : am_M) : (cS h) 31 3 = 0 := by simp [cS, as_get]
theorem cS_31_4 (h : am_M) : (cS h) 31 4 = 0 := by simp [cS, as_get]
theorem cS_32_0 (h : am_M) : (cS h) 32 0 = 60 := by simp [cS, as_get]
theorem cS_32_1 (h : am_M) : (cS h) 32 1 = 60 := by simp [cS, as_get]
theorem cS_32_2 (h : am_M) : (cS h) 32 2 = 60 := by simp [cS, as_get]
theorem cS_32_3 (h : am_M) : (cS h) 32 3 = 60 := by simp [cS, as_get]
theorem cS_32_4 (h : am_M) : (cS h) 32 4 = 60 := by simp [cS, as_get]
theorem cS_23_0 (h : am_M) : (cS h) 23 0 = 0 := by simp [cS, as_get]
theorem cS_0_5 (h : am_M) : (cS h) 0 5 = 0 := by simp [cS, as_get]
theorem cS_0_11 (h : am_M) : (cS h) 0 11 = 0 := by simp [cS, as_get]
theorem cS_k (h : am_M) {k : Nat} (hk : ¬ (k = 0 ∨ (3 ≤ k ∧ k ≤ 12) ∨ k = 23 ∨ k = 30 ∨ k = 31 ∨ k = 32)) (j : Nat) : (cS h) k j = h k j := by
  have q0 : ¬ k = 0 := by omega
  have q3 : ¬ k = 3 := by omega
  have q4 : ¬ k = 4 := by omega
  have q5 : ¬ k = 5 := by omega
  have q6 : ¬ k = 6 := by omega
  have q7 : ¬ k = 7 := by omega
  have q8 : ¬ k = 8 := by omega
  have q9 : ¬ k = 9 := by omega
  have q10 : ¬ k = 10 := by omega
  have q11 : ¬ k = 11 := by omega
  have q12 : ¬ k = 12 := by omega
  have q23 : ¬ k = 23 := by omega
  have q30 : ¬ k = 30 := by omega
  have q31 : ¬ k = 31 := by omega
  have q32 : ¬ k = 32 := by omega
  unfold cS
  simp only [cp_get, as_lo _ _ _ _ q0, as_lo _ _ _ _ q3, as_lo _ _ _ _ q23, as_lo _ _ _ _ q30, as_lo _ _ _ _ q31, as_lo _ _ _ _ q32, q4, q5, q6, q7, q8, q9, q10, q11, q12, if_false]
theorem mI_k (h : am_M) (x : Int32) {k : Nat} (hk : ¬ k = 64) (j : Nat) : (mI h x) k j = h k j := by
  unfold mI
  simp only [as_lo _ _ _ _ hk]
/-- a text without -/
theorem Iv_suc {h h' h0 hF X Y : am_M} {n : Nat} {st : pst} (hI : Iv h) (f : fr xD h h') (t0 : h' 1 0 = 0) (t1 : h' 1 1 = -1) (f0 : fr x68 (mI (cS h') (Int32.ofNat n)) h0) (fF : fr xN h0 hF) (hX : ∀ k j, 13 ≤ k → k ≤ 22 → h' k j = X k j) (rX : rC X st) (hY : ∀ k j, 68 ≤ k → k ≤ 76 → hF k j = Y k j) (rY : rM Y st) (hb : bdS st) : Iv (mS hF) ∧ (mS hF) 64 3 = 0 := by
  obtain ⟨⟨x0, x1, x2, x3⟩, ⟨b0, b1, b2, b3⟩, xs, xb, xt⟩ := rX
  obtain ⟨⟨y0, y1, y2⟩, _, ys, yb, yt⟩ := rY
  obtain ⟨d1, d2, d3⟩ := hb
  obtain ⟨h2, eh2⟩ : ∃ h2, h2 = mS hF := ⟨_, rfl⟩
  rw [← eh2]
  -- the model's cells
  have m68_0 : h2 68 0 = Y 68 7 := by rw [eh2, mS_68_0]; exact hY 68 7 (by decide) (by decide)
  have m68_1 : h2 68 1 = Y 68 8 := by rw [eh2, mS_68_1]; exact hY 68 8 (by decide) (by decide)
  have m68_2 : h2 68 2 = Y 68 9 := by rw [eh2, mS_68_2]; exact hY 68 9 (by decide) (by decide)
  have m68_3 : h2 68 3 = Y 68 10 := by rw [eh2, mS_68_3]; exact hY 68 10 (by decide) (by decide)
  have m68_4 : h2 68 4 = Y 68 11 := by rw [eh2, mS_68_4]; exact hY 68 11 (by decide) (by decide)
  have m68_5 : h2 68 5 = Y 68 12 := by rw [eh2, mS_68_5]; exact hY 68 12 (by decide) (by decide)
  have m68_6 : h2 68 6 = Y 68 13 := by rw [eh2, mS_68_6]; exact hY 68 13 (by decide) (by decide)
  have m69 : ∀ j, j < 5 → h2 69 j = Y 69 (5 + j) := fun j hj => by
    have e : j = 0 ∨ j = 1 ∨ j = 2 ∨ j = 3 ∨ j = 4 := by omega
    rcases e with e | e | e | e | e <;> subst e
    · rw [eh2, mS_69_0]; exact hY 69 5 (by decide) (by decide)
    · rw [eh2, mS_69_1]; exact hY 69 6 (by decide) (by decide)
    · rw [eh2, mS_69_2]; exact hY 69 7 (by decide) (by decide)
    · rw [eh2, mS_69_3]; exact hY 69 8 (by decide) (by decide)
    · rw [eh2, mS_69_4]; exact hY 69 9 (by decide) (by decide)
  have m70 : ∀ j, j < 5 → h2 70 j = Y 70 (5 + j) := fun j hj => by
    have e : j = 0 ∨ j = 1 ∨ j = 2 ∨ j = 3 ∨ j = 4 := by omega
    rcases e with e | e | e | e | e <;> subst e
    · rw [eh2, mS_70_0]; exact hY 70 5 (by decide) (by decide)
    · rw [eh2, mS_70_1]; exact hY 70 6 (by decide) (by decide)
    · rw [eh2, mS_70_2]; exact hY 70 7 (by decide) (by decide)
    · rw [eh2, mS_70_3]; exact hY 70 8 (by decide) (by decide)
    · rw [eh2, mS_70_4]; exact hY 70 9 (by decide) (by decide)
  have m71 : ∀ j, j < 5 → h2 71 j = Y 71 (5 + j) := fun j hj => by
    have e : j = 0 ∨ j = 1 ∨ j = 2 ∨ j = 3 ∨ j = 4 := by omega
    rcases e with e | e | e | e | e <;> subst e
    · rw [eh2, mS_71_0]; exact hY 71 5 (by decide) (by decide)
    · rw [eh2, mS_71_1]; exact hY 71 6 (by decide) (by decide)
    · rw [eh2, mS_71_2]; exact hY 71 7 (by decide) (by decide)
    · rw [eh2, mS_71_3]; exact hY 71 8 (by decide) (by decide)
    · rw [eh2, mS_71_4]; exact hY 71 9 (by decide) (by decide)
  have m72 : ∀ j, j < 5 → h2 72 j = Y 72 (5 + j) := fun j hj => by
    have e : j = 0 ∨ j = 1 ∨ j = 2 ∨ j = 3 ∨ j = 4 := by omega
    rcases e with e | e | e | e | e <;> subst e
    · rw [eh2, mS_72_0]; exact hY 72 5 (by decide) (by decide)
    · rw [eh2, mS_72_1]; exact hY 72 6 (by decide) (by decide)
    · rw [eh2, mS_72_2]; exact hY 72 7 (by decide) (by decide)
    · rw [eh2, mS_72_3]; exact hY 72 8 (by decide) (by decide)
    · rw [eh2, mS_72_4]; exact hY 72 9 (by decide) (by decide)
  have m73 : ∀ j, j < 5 → h2 73 j = Y 73 (5 + j) := fun j hj => by
    have e : j = 0 ∨ j = 1 ∨ j = 2 ∨ j = 3 ∨ j = 4 := by omega
    rcases e with e | e | e | e | e <;> subst e
    · rw [eh2, mS_73_0]; exact hY 73 5 (by decide) (by decide)
    · rw [eh2, mS_73_1]; exact hY 73 6 (by decide) (by decide)
    · rw [eh2, mS_73_2]; exact hY 73 7 (by decide) (by decide)
    · rw [eh2, mS_73_3]; exact hY 73 8 (by decide) (by decide)
    · rw [eh2, mS_73_4]; exact hY 73 9 (by decide) (by decide)
  have m74 : ∀ j, j < 5 → h2 74 j = Y 74 (5 + j) := fun j hj => by
    have e : j = 0 ∨ j = 1 ∨ j = 2 ∨ j = 3 ∨ j = 4 := by omega
    rcases e with e | e | e | e | e <;> subst e
    · rw [eh2, mS_74_0]; exact hY 74 5 (by decide) (by decide)
    · rw [eh2, mS_74_1]; exact hY 74 6 (by decide) (by decide)
    · rw [eh2, mS_74_2]; exact hY 74 7 (by decide) (by decide)
    · rw [eh2, mS_74_3]; exact hY 74 8 (by decide) (by decide)
    · rw [eh2, mS_74_4]; exact hY 74 9 (by decide) (by decide)
  have m75 : ∀ j, j < 5 → h2 75 j = Y 75 (5 + j) := fun j hj => by
    have e : j = 0 ∨ j = 1 ∨ j = 2 ∨ j = 3 ∨ j = 4 := by omega
    rcases e with e | e | e | e | e <;> subst e
    · rw [eh2, mS_75_0]; exact hY 75 5 (by decide) (by decide)
    · rw [eh2, mS_75_1]; exact hY 75 6 (by decide) (by decide)
    · rw [eh2, mS_75_2]; exact hY 75 7 (by decide) (by decide)
    · rw [eh2, mS_75_3]; exact hY 75 8 (by decide) (by decide)
    · rw [eh2, mS_75_4]; exact hY 75 9 (by decide) (by decide)
  have m76 : ∀ j, j < 5 → h2 76 j = Y 76 (5 + j) := fun j hj => by
    have e : j = 0 ∨ j = 1 ∨ j = 2 ∨ j = 3 ∨ j = 4 := by omega
    rcases e with e | e | e | e | e <;> subst e
    · rw [eh2, mS_76_0]; exact hY 76 5 (by decide) (by decide)
    · rw [eh2, mS_76_1]; exact hY 76 6 (by decide) (by decide)
    · rw [eh2, mS_76_2]; exact hY 76 7 (by decide) (by decide)
    · rw [eh2, mS_76_3]; exact hY 76 8 (by decide) (by decide)
    · rw [eh2, mS_76_4]; exact hY 76 9 (by decide) (by decide)
  have m77 : ∀ j, j < 5 → h2 77 j = 0 ∧ h2 79 j = 0 ∧ h2 80 j = 60 := fun j hj => by
    have e : j = 0 ∨ j = 1 ∨ j = 2 ∨ j = 3 ∨ j = 4 := by omega
    rcases e with e | e | e | e | e <;> subst e
    · rw [eh2]; exact ⟨mS_77_0 hF, mS_79_0 hF, mS_80_0 hF⟩
    · rw [eh2]; exact ⟨mS_77_1 hF, mS_79_1 hF, mS_80_1 hF⟩
    · rw [eh2]; exact ⟨mS_77_2 hF, mS_79_2 hF, mS_80_2 hF⟩
    · rw [eh2]; exact ⟨mS_77_3 hF, mS_79_3 hF, mS_80_3 hF⟩
    · rw [eh2]; exact ⟨mS_77_4 hF, mS_79_4 hF, mS_80_4 hF⟩
  -- the class's
  have lo : ∀ k j, k < 64 → xN k j = false → x68 k j = false → h2 k j = (cS h') k j := fun k j hk e1 e2 => by
    rw [eh2, mS_k hF (by omega), fF k j e1, f0 k j e2, mI_k _ _ (by omega)]
  have c4 : ∀ j, j < 5 → h2 4 j = X 14 j := fun j hj => by rw [lo 4 j (by decide) rfl rfl, cS_4 h' hj]; exact hX 14 j (by decide) (by decide)
  have c5 : ∀ j, j < 5 → h2 5 j = X 15 j := fun j hj => by rw [lo 5 j (by decide) rfl rfl, cS_5 h' hj]; exact hX 15 j (by decide) (by decide)
  have c6 : ∀ j, j < 5 → h2 6 j = X 16 j := fun j hj => by rw [lo 6 j (by decide) rfl rfl, cS_6 h' hj]; exact hX 16 j (by decide) (by decide)
  have c7 : ∀ j, j < 5 → h2 7 j = X 17 j := fun j hj => by rw [lo 7 j (by decide) rfl rfl, cS_7 h' hj]; exact hX 17 j (by decide) (by decide)
  have c8 : ∀ j, j < 5 → h2 8 j = X 18 j := fun j hj => by rw [lo 8 j (by decide) rfl rfl, cS_8 h' hj]; exact hX 18 j (by decide) (by decide)
  have c9 : ∀ j, j < 5 → h2 9 j = X 19 j := fun j hj => by rw [lo 9 j (by decide) rfl rfl, cS_9 h' hj]; exact hX 19 j (by decide) (by decide)
  have c10 : ∀ j, j < 5 → h2 10 j = X 20 j := fun j hj => by rw [lo 10 j (by decide) rfl rfl, cS_10 h' hj]; exact hX 20 j (by decide) (by decide)
  have c11 : ∀ j, j < 5 → h2 11 j = X 21 j := fun j hj => by rw [lo 11 j (by decide) rfl rfl, cS_11 h' hj]; exact hX 21 j (by decide) (by decide)
  have c12 : ∀ j, j < 4 → h2 12 j = X 22 j := fun j hj => by rw [lo 12 j (by decide) rfl rfl, cS_12 h' hj]; exact hX 22 j (by decide) (by decide)
  have c30 : ∀ j, j < 5 → h2 30 j = 0 ∧ h2 31 j = 0 ∧ h2 32 j = 60 := fun j hj => by
    rw [lo 30 j (by decide) rfl rfl, lo 31 j (by decide) rfl rfl, lo 32 j (by decide) rfl rfl]
    have e : j = 0 ∨ j = 1 ∨ j = 2 ∨ j = 3 ∨ j = 4 := by omega
    rcases e with e | e | e | e | e <;> subst e
    · exact ⟨cS_30_0 h', cS_31_0 h', cS_32_0 h'⟩
    · exact ⟨cS_30_1 h', cS_31_1 h', cS_32_1 h'⟩
    · exact ⟨cS_30_2 h', cS_31_2 h', cS_32_2 h'⟩
    · exact ⟨cS_30_3 h', cS_31_3 h', cS_32_3 h'⟩
    · exact ⟨cS_30_4 h', cS_31_4 h', cS_32_4 h'⟩
  have s30 : h2 3 0 = Int32.ofNat st.1.1 := by rw [lo 3 0 (by decide) rfl rfl, cS_3_0]; exact (hX 13 0 (by decide) (by decide)).trans x0
  have s31 : h2 3 1 = Int32.ofNat st.1.2.1 := by rw [lo 3 1 (by decide) rfl rfl, cS_3_1]; exact (hX 13 1 (by decide) (by decide)).trans x1
  have s32 : h2 3 2 = Int32.ofNat st.1.2.2.1 := by rw [lo 3 2 (by decide) rfl rfl, cS_3_2]; exact (hX 13 2 (by decide) (by decide)).trans x2
  have s230 : h2 23 0 = 0 := by rw [lo 23 0 (by decide) rfl rfl, cS_23_0]
  have s05 : h2 0 5 = 0 := by rw [lo 0 5 (by decide) rfl rfl, cS_0_5]
  have s011 : h2 0 11 = 0 := by rw [lo 0 11 (by decide) rfl rfl, cS_0_11]
  have s10 : h2 1 0 = 0 := by rw [lo 1 0 (by decide) rfl rfl, cS_k h' (by decide)]; exact t0
  have s11 : h2 1 1 = -1 := by rw [lo 1 1 (by decide) rfl rfl, cS_k h' (by decide)]; exact t1
  have s33 : ∀ j, h2 33 j = h 33 j := fun j => by rw [lo 33 j (by decide) rfl rfl, cS_k h' (by decide)]; exact f 33 j rfl
  have hi : ∀ k j, 64 < k → ¬ ((68 ≤ k ∧ k ≤ 77) ∨ k = 79 ∨ k = 80) → xN k j = false → x68 k j = false → h2 k j = h' k j := fun k j hk e0 e1 e2 => by
    rw [eh2, mS_k hF (by omega), fF k j e1, f0 k j e2, mI_k _ _ (by omega), cS_k h' (by omega)]
  have s78 : ∀ j, h2 78 j = h 78 j := fun j => by rw [hi 78 j (by decide) (by decide) rfl rfl]; exact f 78 j rfl
  have s67 : ∀ j, h2 67 j = h 67 j := fun j => by rw [hi 67 j (by decide) (by decide) rfl rfl]; exact f 67 j rfl
  have s6418 : h2 64 18 = 0 := by rw [eh2, mS_64_18, fF 64 18 rfl, f0 64 18 rfl]; rfl
  have s6427 : h2 64 27 = -1 := by rw [eh2, mS_64_27, fF 64 27 rfl, f0 64 27 rfl]; rfl
  have s643 : h2 64 3 = 0 := by rw [eh2, mS_64_3, fF 64 3 rfl, f0 64 3 rfl]; rfl
  have s6428 : h2 64 28 = 0 := by rw [eh2, mS_64_28]
  have s6445 : h2 64 45 = 0 := by rw [eh2, mS_64_45]
  have s6451 : h2 64 51 = 0 := by rw [eh2, mS_64_51]
  clear eh2
  have up : ∀ a b : Nat, a ≤ b → b ≤ 5 → ¬ Int32.ofNat b < Int32.ofNat a := fun a b h1 h2 => by rw [nz_nlt (by omega) (by omega)]; omega
  have hb3 := hI.2.2.1
  have hKK := hI.2.2.2.2.2
  refine ⟨⟨?_, ?_, ?_, ?_, ?_, ?_⟩, s643⟩
  · unfold iv_T
    rw [s10, s6418, s11, s6427]
    exact ⟨rfl, by decide, by decide, rfl, fun j hj hlt => absurd hlt (nat_n0 (by omega))⟩
  · have l : ∀ j, j < 5 → ∀ c, c ≤ 5 → Int32.ofNat j < Int32.ofNat c → j < c := fun j hj c hc hlt => by rw [nz_nlt (by omega) (by omega)] at hlt; exact hlt
    unfold iv_P
    rw [s30, s31, s32, m68_0, m68_1, m68_2, m68_3, m68_4, m68_5, m68_6, c12 0 (by decide), c12 1 (by decide), c12 2 (by decide), c12 3 (by decide), xt 0 (by decide), xt 1 (by decide), xt 2 (by decide), xt 3 (by decide)]
    refine ⟨⟨y0, y1, y2, yt 0 (by decide), yt 1 (by decide), yt 2 (by decide), yt 3 (by decide)⟩, ⟨nat_n0 (by omega), up st.1.1 5 b0 (by decide), nat_n0 (by omega), up st.1.2.1 4 b1 (by decide), nat_n0 (by omega), up st.1.2.2.1 5 b2 (by decide), d3⟩, fun j hj hlt => ?_, fun j hj hlt => ?_⟩
    · have hj' := l j hj st.1.1 b0 hlt
      obtain ⟨u0, u1, u2, u3, u4⟩ := xs j hj'
      obtain ⟨v0, v1, v2, v3, v4⟩ := ys j hj'
      unfold iv_S
      rw [c4 j hj, c5 j hj, c6 j hj, c7 j hj, c8 j hj, m69 j hj, m70 j hj, m71 j hj, m72 j hj, m73 j hj, u0, u1, u2, u3, u4, v0, v1, v2, v3, v4]
      exact ⟨⟨rfl, rfl, rfl, rfl, rfl⟩, d1 j hj'⟩
    · have hj' := l j hj st.1.2.2.1 b2 hlt
      obtain ⟨u0, u1, u2⟩ := xb j hj'
      obtain ⟨v0, v1, v2⟩ := yb j hj'
      unfold iv_B
      rw [c9 j hj, c10 j hj, c11 j hj, m74 j hj, m75 j hj, m76 j hj, u0, u1, u2, v0, v1, v2]
      exact ⟨⟨rfl, rfl, rfl⟩, d2 j hj'⟩
  · refine ⟨0, by decide, s230, s6428, fun j hj => absurd hj (Nat.not_lt_zero j), fun j hj => ?_, ?_, fun s hs hlt => ?_⟩
    · obtain ⟨u0, u1, u2⟩ := c30 j hj
      obtain ⟨v0, v1, v2⟩ := m77 j hj
      rw [u0, u1, u2, v0, v1, v2]
      exact ⟨rfl, rfl, rfl, by decide, by decide, by decide⟩
    · obtain ⟨_, _, _, _, _, _, hJ, _⟩ := hb3
      rw [s78 0, s78 1, s78 2, s33 0, s33 1, s33 2]
      exact hJ
    · rw [s30, nz_nlt (by omega) (by omega)] at hlt
      show ¬ h2 5 s < h2 4 s
      rw [c4 s hs, c5 s hs, (xs s hlt).1, (xs s hlt).2.1]
      exact (d1 s hlt).2.1
  · unfold iv_I
    rw [s05, s6451]
    exact ⟨rfl, .inl rfl⟩
  · unfold iv_R
    rw [s011, s6445]
    exact ⟨rfl, .inl rfl⟩
  · unfold iv_K at hKK ⊢
    rw [s67 0, s67 1, s67 2, s67 3]
    exact hKK
theorem op_harbour {h : am_M} (hI : Iv h) (x : Int32) : opR 24 [some (.ref 0), some (.int x), none] 132 [some (.ref 64), some (.int x), none] cdH h := by
  have hT := hI.1
  have fail : mt 50 24 [some (.ref 0), some (.int x), none] h 1 h → mv 50 132 [some (.ref 64), some (.int x), none] h (some (.int 0)) (am_set (am_set h 64 3 0) 64 3 1) → opR 24 [some (.ref 0), some (.int x), none] 132 [some (.ref 64), some (.int x), none] cdH h := fun A B => ⟨2, 0, 0, h, _, .t 1 A, B, hI, rfl, fun e => absurd e (by decide), by decide⟩
  by_cases a1 : x < 0
  · exact fail (fun d L xs o g Q T hq => sm_24 (am_ift a1 hq)) (fun d L xs o g Q T hq => sm_132 (am_ift a1 hq))
  by_cases a2 : h 1 0 < x
  · exact fail (fun d L xs o g Q T hq => sm_24 (am_iff a1 (am_ift a2 hq))) (fun d L xs o g Q T hq => sm_132 (am_iff a1 (am_ift (by rw [← hT.1]; exact a2) hq)))
  obtain ⟨n, hn, rfl⟩ : ∃ n, n ≤ 500 ∧ x = Int32.ofNat n := by
    have e : 0 ≤ x.toInt := by rw [nz_lt] at a1; have : (0 : Int32).toInt = 0 := rfl; omega
    refine ⟨x.toNatClampNeg, ?_, nz_of e⟩
    have h5 := hT.2.2.1
    rw [nz_lt] at a2 h5
    have : (500 : Int32).toInt = 500 := rfl
    rw [nz_cn]
    omega
  obtain ⟨h', f, t0, t1, hX, M⟩ := cls_24 (h := h) hn a2
  have tp : ∀ hC : am_M, hC 2 = h 2 → hC 81 = h 81 → tpM hC n := fun hC c2 c81 j hj => by
    have := hT.2.2.2.2 j (by omega) (by
      have q : ¬ h 1 0 < Int32.ofNat n := a2
      have r : Int32.ofNat j < Int32.ofNat n := by rw [nz_nlt (by omega) (by omega)]; exact hj
      grind)
    rw [c2, c81]
    exact kd_ok this.2.1 this.2.2 this.1
  have kk : h 67 0 = 40 ∧ h 67 1 = 20 ∧ h 67 2 = 2 ∧ h 67 3 = 999 := hI.2.2.2.2.2
  by_cases c : (spAll (h 2) (kdC h) n (n + 1) 0 st0).2.1 = 0
  · rw [if_pos c] at M
    obtain ⟨X, hX1, rX⟩ := hX c
    have e2 : (cS h') 2 = h 2 := by funext j; rw [cS_k h' (by decide)]; exact f 2 j rfl
    have e81 : (cS h') 81 = h 81 := by funext j; rw [cS_k h' (by decide)]; exact f 81 j rfl
    have ek : kdC (cS h') = kdC h := by unfold kdC; rw [e2]
    have e18 : (cS h') 64 18 = h 64 18 := by rw [cS_k h' (by decide)]; exact f 64 18 rfl
    obtain ⟨h0, hF, f0, fF, D⟩ := mdl_132 (h := cS h') hn (by rw [e18, ← hT.1]; exact a2) (tp _ e2 e81) (by
      have q0 : (cS h') 67 0 = h 67 0 := by rw [cS_k h' (by decide)]; exact f 67 0 rfl
      have q1 : (cS h') 67 1 = h 67 1 := by rw [cS_k h' (by decide)]; exact f 67 1 rfl
      have q2 : (cS h') 67 2 = h 67 2 := by rw [cS_k h' (by decide)]; exact f 67 2 rfl
      have q3 : (cS h') 67 3 = h 67 3 := by rw [cS_k h' (by decide)]; exact f 67 3 rfl
      rw [q0, q1, q2, q3]; exact kk)
    rw [e2, ek] at D
    rcases D with ⟨_, ⟨Y, hY, rY⟩, B⟩ | ⟨c', _⟩
    · have t1' : h' 1 1 = -1 := by
        rw [t1]
        have : ∀ m p st, (spAll (h 2) (kdC h) n m p st).2.1 = 0 → (spAll (h 2) (kdC h) n m p st).2.2 = -1 := by
          intro m
          induction m with
          | zero => intro p st _; rfl
          | succ m ih =>
            intro p st e
            simp only [spAll] at e ⊢
            by_cases z : tkK (kdC h) n p = 0
            · rw [if_pos z]
            · rw [if_neg z] at e ⊢
              by_cases z2 : (spLn (h 2) (kdC h) n p st).2.2.1 = 0
              · rw [if_pos z2] at e ⊢; exact ih _ _ e
              · rw [if_neg z2] at e; exact absurd e z2
        exact this (n + 1) 0 st0 c
      obtain ⟨I2, k3⟩ := Iv_suc hI f t0 t1' f0 fF hX1 rX hY rY (bd_all (n + 1) 0 st0 bd_0 c)
      exact ⟨0, 0, 0, cS h', mS hF, .v M, B, I2, k3, fun _ => rfl, by decide⟩
    · exact absurd c c'
  · rw [if_neg c] at M
    obtain ⟨hC, ehC⟩ : ∃ hC, hC = am_set h' 33 0 (h' 33 0 + 1) := ⟨_, rfl⟩
    rw [← ehC] at M
    have e2 : hC 2 = h 2 := by rw [ehC]; exact f.cell 2 (fun _ => rfl)
    have e81 : hC 81 = h 81 := by rw [ehC]; exact f.cell 81 (fun _ => rfl)
    have ek : kdC hC = kdC h := by unfold kdC; rw [e2]
    have e18 : hC 64 18 = h 64 18 := by rw [ehC]; exact f 64 18 rfl
    have fC : fr xH h hC := by rw [ehC]; exact (f.or fun _ _ hk => xD_H hk).set 33 0 _ rfl
    obtain ⟨h0, hF, f0, fF, D⟩ := mdl_132 (h := hC) hn (by rw [e18, ← hT.1]; exact a2) (tp _ e2 e81) (by rw [fC 67 0 rfl, fC 67 1 rfl, fC 67 2 rfl, fC 67 3 rfl]; exact kk)
    rw [e2, ek] at D
    rcases D with ⟨c', _⟩ | ⟨_, B⟩
    · exact absurd c' c
    have fM : fr xH h (mI hC (Int32.ofNat n)) := (((((fC.set 64 3 _ rfl).set 64 18 _ rfl).set 64 20 _ rfl).set 64 19 _ rfl).set 64 25 _ rfl).set 64 27 _ rfl
    have fF' : fr xH h hF := (fM.trans (f0.or fun _ _ hk => x68_H hk)).trans (fF.or fun _ _ hk => xN_H hk)
    refine ⟨0, _, _, hC, _, .v M, B, Iv_flt hI ((fF'.set 64 27 _ rfl).set 78 0 _ rfl) ?_ ?_ ?_ ?_ ?_, ?_, fun _ => rfl, by decide⟩
    · show hF 1 0 = 0
      rw [fF 1 0 rfl, f0 1 0 rfl, ehC]
      exact t0
    · show hF 64 18 = 0
      rw [fF 64 18 rfl, f0 64 18 rfl]
      rfl
    · show hF 1 1 = (spAll (h 2) (kdC h) n (n + 1) 0 st0).2.2
      rw [fF 1 1 rfl, f0 1 1 rfl, ehC]
      exact t1
    · show hF 33 0 = h 33 0 + 1
      rw [fF 33 0 rfl, f0 33 0 rfl, ehC]
      show h' 33 0 + 1 = _
      rw [f 33 0 rfl]
    · show hF 78 0 + 1 = h 78 0 + 1
      rw [fF 78 0 rfl, f0 78 0 rfl, ehC]
      show h' 78 0 + 1 = _
      rw [f 78 0 rfl]
    · show hF 64 3 = 0
      rw [fF 64 3 rfl, f0 64 3 rfl]
      rfl
