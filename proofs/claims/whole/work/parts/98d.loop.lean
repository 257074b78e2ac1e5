theorem lw_ix {L p : Nat} (hL : L ≤ 100000) (hp : p < L) : am_ix (Int32.ofNat p) L := by
  have e : (Int32.ofNat p).toInt = (p : Int) := nz_n p (by omega)
  refine ⟨?_, ?_⟩
  · rw [nz_lt, e]; have : (0 : Int32).toInt = 0 := rfl; omega
  · rw [nz_cn, e]; omega
theorem lw_7 {L : Nat} (hL : L ≤ 100000) : (Int32.ofNat L - 7).toInt = (L : Int) - 7 := by
  rw [Int32.toInt_sub, nz_n L (by omega)]
  have : (7 : Int32).toInt = 7 := rfl
  rw [this, Int.bmod_eq_of_le (by omega) (by omega)]
theorem lw_end {L p : Nat} (hL : L ≤ 100000) (hp : p ≤ L) (e : L < p + 7) : Int32.ofNat L - 7 < Int32.ofNat p := by
  rw [nz_lt, lw_7 hL, nz_n p (by omega)]
  omega
theorem lw_on {L p : Nat} (hL : L ≤ 100000) (e : p + 7 ≤ L) : ¬ Int32.ofNat L - 7 < Int32.ofNat p := by
  rw [nz_lt, lw_7 hL, nz_n p (by omega)]
  omega
/-! ===== the law's loop over its script ===== -/
theorem law_go {L : Nat} {xs : Nat → Int32} {d G : Nat} (hL : L ≤ 100000) : ∀ (m p : Nat) (q5 q6 : Option Value) (h : am_M) (o : am_L) (g : Nat), L ≤ p + 7 * m + 6 → p ≤ L → am_nl q5 = true → am_nl q6 = true → Iv h → g + m ≤ G → am_X L xs (d + 52) 0 23 [some (.ref am_scr), some (.ref 0), some (.ref 64), some (.ref 108), some (.int (Int32.ofNat p)), q5, q6] [] am_C0 h o g (fun w _ _ g' => w = some (.int 1) ∧ g' ≤ G) (fun _ _ _ _ => False) := by
  intro m
  induction m with
  | zero =>
    intro p q5 q6 h o g hp hpL hq5 hq6 hI hg
    refine sm_0_23 hq5 hq6 (am_ift ?_ ⟨rfl, by omega⟩)
    exact lw_end hL hpL (by omega)
  | succ m ih =>
    intro p q5 q6 h o g hp hpL hq5 hq6 hI hg
    by_cases e : L < p + 7
    · exact sm_0_23 hq5 hq6 (am_ift (lw_end hL hpL e) ⟨rfl, by omega⟩)
    have C : lwC L xs (d + 52) (fun w _ _ g' => w = some (.int 1) ∧ g' ≤ G) (fun _ _ _ _ => False) (Int32.ofNat p + 7) (g + 1) := fun q5 q6 h o g' a b hI hg' => by
      rw [show Int32.ofNat p + 7 = Int32.ofNat (p + 7) from (Int32.ofNat_add p 7).symm]
      exact ih (p + 7) q5 q6 h o g' (by omega) (by omega) a b hI (by omega)
    have i0 : am_ix (Int32.ofNat p) L := lw_ix hL (show p < L by omega)
    have iS : ∀ k, k < 7 → am_ix (Int32.ofNat p + Int32.ofNat k) L := fun k hk => by
      rw [← Int32.ofNat_add]; exact lw_ix hL (by omega)
    have i1 : am_ix (Int32.ofNat p + 1) L := iS 1 (by decide)
    have i2 : am_ix (Int32.ofNat p + 2) L := iS 2 (by decide)
    have i3 : am_ix (Int32.ofNat p + 3) L := iS 3 (by decide)
    have i4 : am_ix (Int32.ofNat p + 4) L := iS 4 (by decide)
    have i5 : am_ix (Int32.ofNat p + 5) L := iS 5 (by decide)
    have i6 : am_ix (Int32.ofNat p + 6) L := iS 6 (by decide)
    clear iS
    refine sm_0_23 hq5 hq6 (am_iff (lw_on hL (by omega)) ⟨i0, ?_⟩)
    generalize Int32.ofNat p = x4 at *
    by_cases e0 : (xs x4.toNatClampNeg) &&& 31 = 0
    · exact am_ift e0 (st_feed hq5 hq6 hI i1 i2 i3 i4 i5 i6 C)
    refine am_iff e0 ?_
    by_cases e1 : (xs x4.toNatClampNeg) &&& 31 = 1
    · exact am_ift e1 (st_harbour hq5 hq6 hI i1 i2 i3 i4 i5 i6 C)
    refine am_iff e1 ?_
    by_cases e2 : (xs x4.toNatClampNeg) &&& 31 = 2
    · exact am_ift e2 (st_fault hq5 hq6 hI i1 i2 i3 i4 i5 i6 C)
    refine am_iff e2 ?_
    by_cases e3 : (xs x4.toNatClampNeg) &&& 31 = 3
    · exact am_ift e3 (st_count hq5 hq6 hI i1 i2 i3 i4 i5 i6 C)
    refine am_iff e3 ?_
    by_cases e4 : (xs x4.toNatClampNeg) &&& 31 = 4
    · exact am_ift e4 (st_ship hq5 hq6 hI i1 i2 i3 i4 i5 i6 C)
    refine am_iff e4 ?_
    by_cases e5 : (xs x4.toNatClampNeg) &&& 31 = 5
    · exact am_ift e5 (st_person hq5 hq6 hI i1 i2 i3 i4 i5 i6 C)
    refine am_iff e5 ?_
    by_cases e6 : (xs x4.toNatClampNeg) &&& 31 = 6
    · exact am_ift e6 (st_berth hq5 hq6 hI i1 i2 i3 i4 i5 i6 C)
    refine am_iff e6 ?_
    by_cases e7 : (xs x4.toNatClampNeg) &&& 31 = 7
    · exact am_ift e7 (st_load hq5 hq6 hI i1 i2 i3 i4 i5 i6 C)
    refine am_iff e7 ?_
    by_cases e8 : (xs x4.toNatClampNeg) &&& 31 = 8
    · exact am_ift e8 (st_lead hq5 hq6 hI i1 i2 i3 i4 i5 i6 C)
    refine am_iff e8 ?_
    by_cases e9 : (xs x4.toNatClampNeg) &&& 31 = 9
    · exact am_ift e9 (st_word hq5 hq6 hI i1 i2 i3 i4 i5 i6 C)
    refine am_iff e9 ?_
    by_cases e10 : (xs x4.toNatClampNeg) &&& 31 = 10
    · exact am_ift e10 (st_undo hq5 hq6 hI i1 i2 i3 i4 i5 i6 C)
    refine am_iff e10 ?_
    by_cases e11 : (xs x4.toNatClampNeg) &&& 31 = 11
    · exact am_ift e11 (st_span hq5 hq6 hI i1 i2 i3 i4 i5 i6 C)
    refine am_iff e11 ?_
    by_cases e12 : (xs x4.toNatClampNeg) &&& 31 = 12
    · exact am_ift e12 (st_liars hq5 hq6 hI i1 i2 i3 i4 i5 i6 C)
    refine am_iff e12 ?_
    by_cases e13 : (xs x4.toNatClampNeg) &&& 31 = 13
    · exact am_ift e13 (st_safe hq5 hq6 hI i1 i2 i3 i4 i5 i6 C)
    refine am_iff e13 ?_
    by_cases e14 : (xs x4.toNatClampNeg) &&& 31 = 14
    · exact am_ift e14 (st_most hq5 hq6 hI i1 i2 i3 i4 i5 i6 C)
    refine am_iff e14 ?_
    by_cases e15 : (xs x4.toNatClampNeg) &&& 31 = 15
    · exact am_ift e15 (st_row hq5 hq6 hI i1 i2 i3 i4 i5 i6 C)
    refine am_iff e15 ?_
    by_cases e16 : (xs x4.toNatClampNeg) &&& 31 = 16
    · exact am_ift e16 (st_odds hq5 hq6 hI i1 i2 i3 i4 i5 i6 C)
    refine am_iff e16 ?_
    by_cases e17 : (xs x4.toNatClampNeg) &&& 31 = 17
    · exact am_ift e17 (st_worth hq5 hq6 hI i1 i2 i3 i4 i5 i6 C)
    refine am_iff e17 ?_
    by_cases e18 : (xs x4.toNatClampNeg) &&& 31 = 18
    · exact am_ift e18 (st_best hq5 hq6 hI i1 i2 i3 i4 i5 i6 C)
    refine am_iff e18 ?_
    by_cases e19 : (xs x4.toNatClampNeg) &&& 31 = 19
    · exact am_ift e19 (st_until hq5 hq6 hI i1 i2 i3 i4 i5 i6 C)
    refine am_iff e19 ?_
    by_cases e20 : (xs x4.toNatClampNeg) &&& 31 = 20
    · exact am_ift e20 (st_bears hq5 hq6 hI i1 i2 i3 i4 i5 i6 C)
    refine am_iff e20 ?_
    by_cases e21 : (xs x4.toNatClampNeg) &&& 31 = 21
    · exact am_ift e21 (st_aground hq5 hq6 hI i1 i2 i3 i4 i5 i6 C)
    refine am_iff e21 ?_
    by_cases e22 : (xs x4.toNatClampNeg) &&& 31 = 22
    · exact am_ift e22 (st_name hq5 hq6 hI i1 i2 i3 i4 i5 i6 C)
    refine am_iff e22 ?_
    by_cases e23 : (xs x4.toNatClampNeg) &&& 31 = 23
    · exact am_ift e23 (st_names hq5 hq6 hI i1 i2 i3 i4 i5 i6 C)
    refine am_iff e23 ?_
    by_cases e24 : (xs x4.toNatClampNeg) &&& 31 = 24
    · exact am_ift e24 (st_image hq5 hq6 hI i1 i2 i3 i4 i5 i6 C)
    refine am_iff e24 ?_
    by_cases e25 : (xs x4.toNatClampNeg) &&& 31 = 25
    · exact am_ift e25 (st_restore hq5 hq6 hI i1 i2 i3 i4 i5 i6 C)
    refine am_iff e25 ?_
    exact C _ _ _ _ _ hq5 hq6 hI (by omega)
