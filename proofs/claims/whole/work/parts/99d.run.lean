/-! ===== the abstract run of the law ===== -/
theorem ini_ok2 : ∃ (h : am_M) (o : am_L), ini = some ([some (.ref am_scr), some (.ref 0), some (.ref 64), some (.ref 108), some (.int 0), none, none], [], am_C0, h, o) ∧ ∀ q ∈ ini_F, h q.1 q.2.1 = q.2.2 := by
  have H := ini_ok
  unfold ini_b at H
  cases e : ini with
  | none => rw [e] at H; cases H
  | some r =>
    obtain ⟨lv, st, S, h, o⟩ := r
    rw [e] at H
    simp only [Bool.and_eq_true] at H
    obtain ⟨⟨⟨h1, h2⟩, h3⟩, h4⟩ := H
    have e1 : st = [] := List.isEmpty_iff.mp h1
    have e2 := eqL_ok h2
    have e3 := eqS_ok h3 (wf_to _ e wf_nil) wf_C0
    subst e1 e2 e3
    exact ⟨h, o, rfl, fun q hq => of_decide_eq_true (List.all_eq_true.mp h4 q hq)⟩
theorem ini_Iv {h : am_M} (H : ∀ q ∈ ini_F, h q.1 q.2.1 = q.2.2) : Iv h := by
  have f : ∀ (k j : Nat) (x : Int32), (k, j, x) ∈ ini_F → h k j = x := fun k j x hm => H (k, j, x) hm
  have c1_0 := f 1 0 0 (by decide)
  have c64_18 := f 64 18 0 (by decide)
  have c1_1 := f 1 1 (-1) (by decide)
  have c64_27 := f 64 27 (-1) (by decide)
  have c68_0 := f 68 0 0 (by decide)
  have c68_1 := f 68 1 0 (by decide)
  have c68_2 := f 68 2 0 (by decide)
  have c68_3 := f 68 3 0 (by decide)
  have c68_4 := f 68 4 0 (by decide)
  have c68_5 := f 68 5 0 (by decide)
  have c68_6 := f 68 6 0 (by decide)
  have c3_0 := f 3 0 0 (by decide)
  have c3_1 := f 3 1 0 (by decide)
  have c3_2 := f 3 2 0 (by decide)
  have c12_0 := f 12 0 0 (by decide)
  have c12_1 := f 12 1 0 (by decide)
  have c12_2 := f 12 2 0 (by decide)
  have c12_3 := f 12 3 0 (by decide)
  have c23_0 := f 23 0 0 (by decide)
  have c64_28 := f 64 28 0 (by decide)
  have c77_0 := f 77 0 0 (by decide)
  have c79_0 := f 79 0 0 (by decide)
  have c80_0 := f 80 0 0 (by decide)
  have c30_0 := f 30 0 0 (by decide)
  have c31_0 := f 31 0 0 (by decide)
  have c32_0 := f 32 0 0 (by decide)
  have c77_1 := f 77 1 0 (by decide)
  have c79_1 := f 79 1 0 (by decide)
  have c80_1 := f 80 1 0 (by decide)
  have c30_1 := f 30 1 0 (by decide)
  have c31_1 := f 31 1 0 (by decide)
  have c32_1 := f 32 1 0 (by decide)
  have c77_2 := f 77 2 0 (by decide)
  have c79_2 := f 79 2 0 (by decide)
  have c80_2 := f 80 2 0 (by decide)
  have c30_2 := f 30 2 0 (by decide)
  have c31_2 := f 31 2 0 (by decide)
  have c32_2 := f 32 2 0 (by decide)
  have c77_3 := f 77 3 0 (by decide)
  have c79_3 := f 79 3 0 (by decide)
  have c80_3 := f 80 3 0 (by decide)
  have c30_3 := f 30 3 0 (by decide)
  have c31_3 := f 31 3 0 (by decide)
  have c32_3 := f 32 3 0 (by decide)
  have c77_4 := f 77 4 0 (by decide)
  have c79_4 := f 79 4 0 (by decide)
  have c80_4 := f 80 4 0 (by decide)
  have c30_4 := f 30 4 0 (by decide)
  have c31_4 := f 31 4 0 (by decide)
  have c32_4 := f 32 4 0 (by decide)
  have c78_0 := f 78 0 0 (by decide)
  have c33_0 := f 33 0 0 (by decide)
  have c78_1 := f 78 1 0 (by decide)
  have c33_1 := f 33 1 0 (by decide)
  have c78_2 := f 78 2 0 (by decide)
  have c33_2 := f 33 2 0 (by decide)
  have c64_51 := f 64 51 0 (by decide)
  have c0_5 := f 0 5 0 (by decide)
  have c64_45 := f 64 45 0 (by decide)
  have c0_11 := f 0 11 0 (by decide)
  have c67_0 := f 67 0 40 (by decide)
  have c67_1 := f 67 1 20 (by decide)
  have c67_2 := f 67 2 2 (by decide)
  have c67_3 := f 67 3 999 (by decide)
  refine ⟨?_, ?_, ?_, ?_, ?_, ?_⟩
  · unfold iv_T
    rw [c1_0, c64_18, c1_1, c64_27]
    refine ⟨rfl, by decide, by decide, rfl, fun j hj hlt => ?_⟩
    rw [show (0 : Int32) = Int32.ofNat 0 from rfl, nz_nlt (by omega) (by decide)] at hlt
    omega
  · unfold iv_P
    rw [c68_0, c68_1, c68_2, c68_3, c68_4, c68_5, c68_6, c3_0, c3_1, c3_2, c12_0, c12_1, c12_2, c12_3]
    refine ⟨by decide, by decide, fun j hj hlt => ?_, fun j hj hlt => ?_⟩
    · rw [show (0 : Int32) = Int32.ofNat 0 from rfl, nz_nlt (by omega) (by decide)] at hlt
      omega
    · rw [show (0 : Int32) = Int32.ofNat 0 from rfl, nz_nlt (by omega) (by decide)] at hlt
      omega
  · unfold iv_N
    refine ⟨0, by decide, c23_0, c64_28, fun j hj => by omega, fun j hj => ?_, ⟨by rw [c78_0, c33_0], by rw [c78_1, c33_1], by rw [c78_2, c33_2]⟩, fun s hs hlt => ?_⟩
    · match j, hj with
      | 0, _ => rw [c77_0, c79_0, c80_0, c30_0, c31_0, c32_0]; decide
      | 1, _ => rw [c77_1, c79_1, c80_1, c30_1, c31_1, c32_1]; decide
      | 2, _ => rw [c77_2, c79_2, c80_2, c30_2, c31_2, c32_2]; decide
      | 3, _ => rw [c77_3, c79_3, c80_3, c30_3, c31_3, c32_3]; decide
      | 4, _ => rw [c77_4, c79_4, c80_4, c30_4, c31_4, c32_4]; decide
      | j + 5, hj => omega
    · rw [c3_0, show (0 : Int32) = Int32.ofNat 0 from rfl, nz_nlt (by omega) (by decide)] at hlt
      omega
  · unfold iv_I
    rw [c64_51, c0_5]
    exact ⟨rfl, .inl rfl⟩
  · unfold iv_R
    rw [c64_45, c0_11]
    exact ⟨rfl, .inl rfl⟩
  · exact ⟨c67_0, c67_1, c67_2, c67_3⟩
theorem law_run {L : Nat} (xs : Nat → Int32) (hL : L ≤ 3584) : ∃ (n : Nat) (h' : am_M) (o' : am_L) (g' : Nat), am_run L xs n 60 0 0 [some (.ref am_scr), none, none, none, none, none, none] [] [] (fun _ _ => 0) (fun _ _ => 0) 0 = some (.inr (some (.int 1)), am_C0, h', o', g') ∧ g' ≤ 512 := by
  obtain ⟨h, o, e, H⟩ := ini_ok2
  have G := law_go (L := L) (xs := xs) (d := 8) (G := 512) (by omega) 512 0 none none h o 0 (by omega) (by omega) rfl rfl (ini_Iv H) (by omega)
  obtain ⟨n, r, h', o', g', hr, hq⟩ := G
  cases r with
  | inl E => exact hq.elim
  | inr w =>
    obtain ⟨rfl, hg⟩ := hq
    obtain ⟨k, hk⟩ := am_to_ok (L := L) (xs := xs) 1000 e n _ hr
    exact ⟨k, h', o', g', hk, hg⟩
