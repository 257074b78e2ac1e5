/-! ===== odds: both sides ===== -/
/-- the numbers of odds: all, deep -/
theorem od_n {l r z : Int32} (l0 : ¬ l < 0) (r1 : ¬ 60 < r) (em : ¬ r < l) (z0 : ¬ z < 1) (z1 : ¬ 60 < z) : ∃ A U : Nat, 1 ≤ A ∧ A ≤ 61 ∧ U ≤ A ∧ r - l + 1 = Int32.ofNat A ∧ (r - l + 1) - (if 0 < ((if z - 1 < r then z - 1 else r) - l) + 1 then ((if z - 1 < r then z - 1 else r) - l) + 1 else 0) = Int32.ofNat U ∧ (if 0 < (if (r - z) + 1 < r - l + 1 then (r - z) + 1 else r - l + 1) then (if (r - z) + 1 < r - l + 1 then (r - z) + 1 else r - l + 1) else 0) = Int32.ofNat U := by
  rw [nz_lt] at l0 r1 em z0 z1
  have c0 : (0 : Int32).toInt = 0 := rfl
  have c1 : (1 : Int32).toInt = 1 := rfl
  have c60 : (60 : Int32).toInt = 60 := rfl
  have v1 : (r - l).toInt = r.toInt - l.toInt := nz_sub (by omega) (by omega)
  have v2 : (r - l + 1).toInt = r.toInt - l.toInt + 1 := by rw [nz_add (by rw [v1]; omega) (by rw [v1]; omega), v1, c1]
  have v3 : (z - 1).toInt = z.toInt - 1 := by rw [nz_sub (by omega) (by omega), c1]
  have v4 : (if z - 1 < r then z - 1 else r).toInt = if z.toInt - 1 < r.toInt then z.toInt - 1 else r.toInt := by
    by_cases c : z - 1 < r
    · rw [if_pos c, v3, if_pos (by rw [nz_lt, v3] at c; exact c)]
    · rw [if_neg c, if_neg (by rw [nz_lt, v3] at c; exact c)]
  generalize (if z - 1 < r then z - 1 else r) = m at v4
  have v4b : -1 ≤ m.toInt ∧ m.toInt ≤ 60 := by rw [v4]; split <;> omega
  have v5 : (m - l).toInt = m.toInt - l.toInt := nz_sub (by omega) (by omega)
  have v6 : (m - l + 1).toInt = m.toInt - l.toInt + 1 := by rw [nz_add (by rw [v5]; omega) (by rw [v5]; omega), v5, c1]
  have v7 : (if 0 < m - l + 1 then m - l + 1 else 0).toInt = if 0 < m.toInt - l.toInt + 1 then m.toInt - l.toInt + 1 else 0 := by
    by_cases c : 0 < m - l + 1
    · rw [if_pos c, v6, if_pos (by rw [nz_lt, v6, c0] at c; exact c)]
    · rw [if_neg c, c0, if_neg (by rw [nz_lt, v6, c0] at c; exact c)]
  generalize (if 0 < m - l + 1 then m - l + 1 else 0) = e at v7
  have v7b : 0 ≤ e.toInt ∧ e.toInt ≤ 61 := by rw [v7]; split <;> omega
  have v8 : ((r - l + 1) - e).toInt = r.toInt - l.toInt + 1 - e.toInt := by rw [nz_sub (by rw [v2]; omega) (by rw [v2]; omega), v2]
  have v9 : (r - z).toInt = r.toInt - z.toInt := nz_sub (by omega) (by omega)
  have v10 : (r - z + 1).toInt = r.toInt - z.toInt + 1 := by rw [nz_add (by rw [v9]; omega) (by rw [v9]; omega), v9, c1]
  have v11 : (if r - z + 1 < r - l + 1 then r - z + 1 else r - l + 1).toInt = if r.toInt - z.toInt + 1 < r.toInt - l.toInt + 1 then r.toInt - z.toInt + 1 else r.toInt - l.toInt + 1 := by
    by_cases c : r - z + 1 < r - l + 1
    · rw [if_pos c, v10, if_pos (by rw [nz_lt, v10, v2] at c; exact c)]
    · rw [if_neg c, v2, if_neg (by rw [nz_lt, v10, v2] at c; exact c)]
  generalize (if r - z + 1 < r - l + 1 then r - z + 1 else r - l + 1) = f at v11
  have v12 : (if 0 < f then f else 0).toInt = if 0 < f.toInt then f.toInt else 0 := by
    by_cases c : 0 < f
    · rw [if_pos c, if_pos (by rw [nz_lt, c0] at c; exact c)]
    · rw [if_neg c, c0, if_neg (by rw [nz_lt, c0] at c; exact c)]
  have key : r.toInt - l.toInt + 1 - e.toInt = (if 0 < f.toInt then f.toInt else 0) ∧ 0 ≤ r.toInt - l.toInt + 1 - e.toInt ∧ r.toInt - l.toInt + 1 - e.toInt ≤ r.toInt - l.toInt + 1 := by
    rw [v11, v7, v4]
    repeat' split
    all_goals omega
  refine ⟨(r - l + 1).toNatClampNeg, ((r - l + 1) - e).toNatClampNeg, by rw [nz_cn, v2]; omega, by rw [nz_cn, v2]; omega, by rw [nz_cn, nz_cn, v2, v8]; omega, nz_of (by rw [v2]; omega), nz_of (by rw [v8]; omega), ?_⟩
  rw [nz_eq, v12, ← key.1, ← nz_of (by rw [v8]; omega), v8]
theorem spn_b2 {tk : Nat → Bool} {D T : Nat → Int32} {s : Int32 × Int32} (h1 : ¬ 60 < s.1) (h2 : ¬ s.2 < 0) : ∀ n, (∀ k, k < n → ¬ D k < 1 ∧ ¬ 60 < D k) → ¬ 60 < (spn tk D T s n).1 ∧ ¬ (spn tk D T s n).2 < 0
  | 0, _ => ⟨h1, h2⟩
  | n + 1, hd => by
    obtain ⟨a, b⟩ := spn_b2 (tk := tk) (D := D) (T := T) h1 h2 n (fun k hk => hd k (by omega))
    have dn := hd n (by omega)
    simp only [spn]
    generalize spn tk D T s n = q at a b
    generalize D n = x at dn
    unfold sp_cut
    split
    · split
      · refine ⟨a, ?_⟩
        simp only
        split <;> grind
      · refine ⟨?_, b⟩
        simp only
        split <;> grind
    · exact ⟨a, b⟩
theorem op_odds {h : am_M} (hI : Iv h) (p s z w : Int32) : opR 97 [some (.ref 0), some (.int p), some (.int s), some (.int z), some (.int w), none, none, none] 190 [some (.ref 64), some (.int p), some (.int s), some (.int z), some (.int w), none, none, none] cdN h := by
  have hI' := hI
  obtain ⟨hT, hP, ⟨N, hN, e1, e2, hE, hG, hJ, hS⟩, hII, hR, hK⟩ := hI'
  obtain ⟨p0, p1, p2, p3, p4, p5, p6⟩ := hP.1
  obtain ⟨b0, b1, b2, b3, b4, b5, b6, b7, b8, b9, b10, b11, b12, b13⟩ := hP.2.1
  have b3' : ¬ 5 < h 3 1 := by grind
  by_cases a1 : p < 0
  · exact op_fail hI (fun d L xs o g Q T hq => sm_97 (am_ift a1 (hq))) (fun d L xs o g Q T hq => sm_190 (am_ift a1 (hq)))
  by_cases a2 : p < h 3 1
  rotate_left
  · have n2 : h 68 1 - 1 < p := by rw [p1]; exact rq5n b2 b3' a2
    exact op_fail hI (fun d L xs o g Q T hq => sm_97 (am_iff a1 (am_iff a2 (hq)))) (fun d L xs o g Q T hq => sm_190 (am_iff a1 (am_ift n2 (hq))))
  have n2 : ¬ h 68 1 - 1 < p := by rw [p1]; exact rq5 b2 b3' a2
  by_cases a3 : s < 0
  · exact op_fail hI (fun d L xs o g Q T hq => sm_97 (am_iff a1 (am_ift a2 (am_ift a3 (hq))))) (fun d L xs o g Q T hq => sm_190 (am_iff a1 (am_iff n2 (am_ift a3 (hq)))))
  by_cases a4 : s < h 3 0
  rotate_left
  · have n4 : h 68 0 - 1 < s := by rw [p0]; exact rq5n b0 b1 a4
    exact op_fail hI (fun d L xs o g Q T hq => sm_97 (am_iff a1 (am_ift a2 (am_iff a3 (am_iff a4 (hq)))))) (fun d L xs o g Q T hq => sm_190 (am_iff a1 (am_iff n2 (am_iff a3 (am_ift n4 (hq))))))
  have n4 : ¬ h 68 0 - 1 < s := by rw [p0]; exact rq5 b0 b1 a4
  by_cases a5 : w < 0
  · exact op_fail hI (fun d L xs o g Q T hq => sm_97 (am_iff a1 (am_ift a2 (am_iff a3 (am_ift a4 (am_ift a5 (hq))))))) (fun d L xs o g Q T hq => sm_190 (am_iff a1 (am_iff n2 (am_iff a3 (am_iff n4 (am_ift a5 (hq)))))))
  by_cases a6 : 1 < w
  · exact op_fail hI (fun d L xs o g Q T hq => sm_97 (am_iff a1 (am_ift a2 (am_iff a3 (am_ift a4 (am_iff a5 (am_ift a6 (hq)))))))) (fun d L xs o g Q T hq => sm_190 (am_iff a1 (am_iff n2 (am_iff a3 (am_iff n4 (am_iff a5 (am_ift a6 (hq))))))))
  by_cases a7 : z < 1
  · exact op_fail2 hI (fun d L xs o g Q T hq => sm_97 (am_iff a1 (am_ift a2 (am_iff a3 (am_ift a4 (am_iff a5 (am_iff a6 (am_ift a7 (hq))))))))) (fun d L xs o g Q T hq => sm_190 (am_iff a1 (am_iff n2 (am_iff a3 (am_iff n4 (am_iff a5 (am_iff a6 (am_ift a7 (hq)))))))))
  by_cases a8 : 60 < z
  · exact op_fail2 hI (fun d L xs o g Q T hq => sm_97 (am_iff a1 (am_ift a2 (am_iff a3 (am_ift a4 (am_iff a5 (am_iff a6 (am_iff a7 (am_ift a8 (hq)))))))))) (fun d L xs o g Q T hq => sm_190 (am_iff a1 (am_iff n2 (am_iff a3 (am_iff n4 (am_iff a5 (am_iff a6 (am_iff a7 (am_ift a8 (hq))))))))))
  have ia := iv_at a3 a4 b1
  have hs := hP.2.2.1 _ ia.1 ia.2.1
  obtain ⟨⟨r1, r2, r3, r4, r5⟩, r6, r7, r8, r9, r10, r11, r12, r13, r14⟩ := hs
  have q0 : ((h 69 s.toNatClampNeg, h 70 s.toNatClampNeg) : Int32 × Int32) = (h 4 s.toNatClampNeg, h 5 s.toNatClampNeg) := by rw [r1, r2]
  have hk := sp_kn (p := p) (s := s) (but := -1) hE (Nat.le_refl N) (h 69 s.toNatClampNeg, h 70 s.toNatClampNeg)
  rw [q0] at hk
  have sb := spn_b (tk := tk_kn h p s (-1)) (D := h 27) (T := h 28) (s := (h 4 s.toNatClampNeg, h 5 s.toNatClampNeg)) N
  have sc := spn_b2 (tk := tk_kn h p s (-1)) (D := h 27) (T := h 28) (s := (h 4 s.toNatClampNeg, h 5 s.toNatClampNeg)) (show ¬ 60 < h 4 s.toNatClampNeg by grind) (show ¬ h 5 s.toNatClampNeg < 0 by grind) N (fun k hk => ⟨(hE k hk).1.2.2.2.2.1, (hE k hk).1.2.2.2.2.2.1⟩)
  have H1 : mv 2 99 [some (.ref 0), some (.int p), some (.int s)] h none (wrp h 61 0 1 (spn (tk_kn h p s (-1)) (h 27) (h 28) (h 4 s.toNatClampNeg, h 5 s.toNatClampNeg) N)) := fun d L xs o g Q T hq => by
    refine sm_99 ?_
    rw [e1]
    exact (mv_76 hN ia.2.2.1).use (sm_99_21 rfl rfl rfl hq)
  generalize spn (tk_kn h p s (-1)) (h 27) (h 28) (h 4 s.toNatClampNeg, h 5 s.toNatClampNeg) N = sp at H1 hk sb sc
  have M1 := mv_172 (h := am_set (wrp h 61 0 1 sp) 64 3 0) (p := p) (s := s) (but := -1) (N := N) hN ia.2.2.2
  have hk2 : spn (tk_ms (am_set (wrp h 61 0 1 sp) 64 3 0) p s (-1)) ((am_set (wrp h 61 0 1 sp) 64 3 0) 85) ((am_set (wrp h 61 0 1 sp) 64 3 0) 87) ((am_set (wrp h 61 0 1 sp) 64 3 0) 69 s.toNatClampNeg, (am_set (wrp h 61 0 1 sp) 64 3 0) 70 s.toNatClampNeg) N = sp := by
    show spn (tk_ms h p s (-1)) (h 85) (h 87) (h 69 s.toNatClampNeg, h 70 s.toNatClampNeg) N = sp
    rw [q0]
    exact hk
  rw [hk2] at M1
  obtain ⟨s1, s2⟩ := sb
  simp only at s1 s2
  have f77 : fn_77 (wrp h 61 0 1 sp) = if sp.2 < sp.1 then 0 else sp.2 - sp.1 + 1 := rfl
  have f100 : fn_100 (wrp h 61 0 1 sp) z = if sp.2 < sp.1 then 0 else (if 0 < ((if z - 1 < sp.2 then z - 1 else sp.2) - sp.1) + 1 then ((if z - 1 < sp.2 then z - 1 else sp.2) - sp.1) + 1 else 0) := rfl
  have CA : ∀ v (a b : Nat), a ≤ 100 → b < 100 → fn_77 (wrp h 61 0 1 sp) = Int32.ofNat b → fn_77 (wrp h 61 0 1 sp) - fn_100 (wrp h 61 0 1 sp) z = Int32.ofNat a → (∀ (Q : Option Value → am_M → am_L → Nat → Prop) (o : am_L) (g : Nat), Q (some (.int v)) (wrp h 61 0 1 sp) o g → (if Int32.ofNat (Nat.gcd b a) = 0 then (if w = 0 then Q (some (.int 0)) (wrp h 61 0 1 sp) o g else Q (some (.int 1)) (wrp h 61 0 1 sp) o g) else (if w = 0 then (¬ Int32.ofNat (Nat.gcd b a) = 0 ∧ Q (some (.int (Int32.ofNat a / Int32.ofNat (Nat.gcd b a)))) (wrp h 61 0 1 sp) o g) else (¬ Int32.ofNat (Nat.gcd b a) = 0 ∧ Q (some (.int (Int32.ofNat b / Int32.ofNat (Nat.gcd b a)))) (wrp h 61 0 1 sp) o g)))) → mv 50 97 [some (.ref 0), some (.int p), some (.int s), some (.int z), some (.int w), none, none, none] h (some (.int v)) (wrp h 61 0 1 sp) := fun v a b ha hb e77 e100 hv d L xs o g Q T hq => by
    refine sm_97 (am_iff a1 (am_ift a2 (am_iff a3 (am_ift a4 (am_iff a5 (am_iff a6 (am_iff a7 (am_iff a8 (?_)))))))))
    refine H1.use (sm_97_28 rfl rfl rfl rfl rfl ?_)
    rw [e100, e77]
    exact (mv_101 ha hb).use (sm_97_57 rfl rfl rfl rfl rfl (hv Q o g hq))
  by_cases em : sp.2 < sp.1
  · have e77 : fn_77 (wrp h 61 0 1 sp) = Int32.ofNat 0 := by rw [f77, if_pos em]; rfl
    have e100 : fn_77 (wrp h 61 0 1 sp) - fn_100 (wrp h 61 0 1 sp) z = Int32.ofNat 0 := by rw [f77, f100, if_pos em, if_pos em]; rfl
    have la : (if 0 < (sp.2 - sp.1) + 1 then (sp.2 - sp.1) + 1 else 0) = 0 := by
      have c1 := sc.1
      have c2 := sc.2
      generalize sp.1 = l at *
      generalize sp.2 = r at *
      rw [if_neg (by grind)]
    have B : ∀ v, (v = if w = 0 then 0 else 1) → mv 50 190 [some (.ref 64), some (.int p), some (.int s), some (.int z), some (.int w), none, none, none] (wrp h 61 0 1 sp) (some (.int v)) (wrp (am_set (wrp h 61 0 1 sp) 64 3 0) 64 35 36 sp) := fun v hv d L xs o g Q T hq => by
      refine sm_190 (am_iff a1 (am_iff n2 (am_iff a3 (am_iff n4 (am_iff a5 (am_iff a6 (am_iff a7 (am_iff a8 (?_)))))))))
      rw [show (wrp h 61 0 1 sp) 64 28 = Int32.ofNat N from e2]
      refine M1.use (sm_190_64 rfl rfl rfl rfl rfl (am_ift la ?_))
      rw [hv] at hq
      by_cases c : w = 0
      · rw [if_pos c] at hq; exact am_ift c hq
      · rw [if_neg c] at hq; exact am_iff c hq
    refine ⟨0, if w = 0 then 0 else 1, _, _, _, .v (CA _ 0 0 (by omega) (by omega) e77 e100 (fun Q o g hq => am_ift rfl ?_)), B _ rfl, hI, rfl, fun _ => rfl, by decide⟩
    by_cases c : w = 0
    · rw [if_pos c] at hq; exact am_ift c hq
    · rw [if_neg c] at hq; exact am_iff c hq
  obtain ⟨A, U, hA1, hA2, hU, ea, eu, eu'⟩ := od_n (l := sp.1) (r := sp.2) (z := z) (by grind) (by grind) em a7 a8
  have e77 : fn_77 (wrp h 61 0 1 sp) = Int32.ofNat A := by rw [f77, if_neg em]; exact ea
  have e100 : fn_77 (wrp h 61 0 1 sp) - fn_100 (wrp h 61 0 1 sp) z = Int32.ofNat U := by rw [f77, f100, if_neg em, if_neg em]; exact eu
  have gp : ¬ Nat.gcd A U = 0 := by
    intro hc
    have := Nat.eq_zero_of_gcd_eq_zero_left hc
    omega
  have gz : ¬ Int32.ofNat (Nat.gcd A U) = 0 := z_ne (by have := Nat.gcd_le_left U (show 0 < A by omega); omega) gp
  have la : (if 0 < (sp.2 - sp.1) + 1 then (sp.2 - sp.1) + 1 else 0) = Int32.ofNat A := by
    rw [ea, if_pos (by show Int32.ofNat 0 < Int32.ofNat A; rw [nz_nlt (by decide) (by omega)]; omega)]
  have az : ¬ Int32.ofNat A = 0 := z_ne (by omega) (by omega)
  rw [ea] at eu'
  have B : ∀ v, (v = if w = 0 then Int32.ofNat U / Int32.ofNat (Nat.gcd A U) else Int32.ofNat A / Int32.ofNat (Nat.gcd A U)) → mv 50 190 [some (.ref 64), some (.int p), some (.int s), some (.int z), some (.int w), none, none, none] (wrp h 61 0 1 sp) (some (.int v)) (wrp (am_set (wrp h 61 0 1 sp) 64 3 0) 64 35 36 sp) := fun v hv d L xs o g Q T hq => by
    refine sm_190 (am_iff a1 (am_iff n2 (am_iff a3 (am_iff n4 (am_iff a5 (am_iff a6 (am_iff a7 (am_iff a8 (?_)))))))))
    rw [show (wrp h 61 0 1 sp) 64 28 = Int32.ofNat N from e2]
    refine M1.use (sm_190_64 rfl rfl rfl rfl rfl ?_)
    rw [show (wrp (am_set (wrp h 61 0 1 sp) 64 3 0) 64 35 36 sp) 64 36 = sp.2 from rfl, show (wrp (am_set (wrp h 61 0 1 sp) 64 3 0) 64 35 36 sp) 64 35 = sp.1 from rfl, la, eu']
    refine am_iff az ((mv_191 (by omega) (by omega)).use (sm_190_125 rfl rfl rfl rfl rfl ?_))
    rw [Nat.gcd_comm U A, hv] at *
    by_cases c : w = 0
    · rw [if_pos c] at hq; exact am_ift c ⟨gz, hq⟩
    · rw [if_neg c] at hq; exact am_iff c (am_iff az ⟨gz, hq⟩)
  refine ⟨0, if w = 0 then Int32.ofNat U / Int32.ofNat (Nat.gcd A U) else Int32.ofNat A / Int32.ofNat (Nat.gcd A U), _, _, _, .v (CA _ U A (by omega) (by omega) e77 e100 (fun Q o g hq => am_iff gz ?_)), B _ rfl, hI, rfl, fun _ => rfl, by decide⟩
  by_cases c : w = 0
  · rw [if_pos c] at hq; exact am_ift c ⟨gz, hq⟩
  · rw [if_neg c] at hq; exact am_iff c ⟨gz, hq⟩
