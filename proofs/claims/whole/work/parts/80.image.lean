/-! ===== image, restore ===== -/
theorem iv_cp {np ns fee ev ev' : Int32} {lo hi A B C D E F G H I J A' B' C' D' E' F' G' H' I' J' a b c d e f g h i k a' b' c' d' e' f' g' h' i' k' : Nat → Int32} (HJ : iv_J np ns fee ev ev' lo hi A B C D E F G H I J A' B' C' D' E' F' G' H' I' J')
    (h6 : ∀ N, N ≤ 80 → ev = Int32.ofNat N → ∀ j, j < N → iv_E np ns fee A B C D E F A' B' C' D' E' F' j → (a j = A j ∧ b j = B j ∧ c j = C j ∧ d j = D j ∧ e j = E j ∧ f j = F j) ∧ a' j = A' j ∧ b' j = B' j ∧ c' j = C' j ∧ d' j = D' j ∧ e' j = E' j ∧ f' j = F' j)
    (h5 : ∀ j, j < 5 → g j = G j ∧ h j = H j ∧ i j = I j ∧ g' j = G' j ∧ h' j = H' j ∧ i' j = I' j) (h3 : ∀ j, j < 3 → k j = J j ∧ k' j = J' j) : iv_J np ns fee ev ev' lo hi a b c d e f g h i k a' b' c' d' e' f' g' h' i' k' := by
  obtain ⟨N, hN, e1, e2, hE, hG, hJ, hS⟩ := HJ
  refine ⟨N, hN, e1, e2, fun j hj => ?_, fun j hj => ?_, ?_, fun s hs hs' => ?_⟩
  · have u := hE j hj
    obtain ⟨⟨x1, x2, x3, x4, x5, x6⟩, y1, y2, y3, y4, y5, y6⟩ := h6 N hN e1 j hj u
    unfold iv_E at u ⊢
    rw [x1, x2, x3, x4, x5, x6, y1, y2, y3, y4, y5, y6]
    exact u
  · obtain ⟨x1, x2, x3, y1, y2, y3⟩ := h5 j hj
    rw [x1, x2, x3, y1, y2, y3]
    exact hG j hj
  · rw [(h3 0 (by decide)).1, (h3 0 (by decide)).2, (h3 1 (by decide)).1, (h3 1 (by decide)).2, (h3 2 (by decide)).1, (h3 2 (by decide)).2]
    exact hJ
  · have e : spL b c d e (Int32.ofNat s) (lo s) (hi s) N = spL B C D E (Int32.ofNat s) (lo s) (hi s) N := by
      apply spn_congr
      intro j hj
      obtain ⟨⟨x1, x2, x3, x4, x5, x6⟩, _⟩ := h6 N hN e1 j hj (hE j hj)
      rw [x2, x3]
      exact ⟨rfl, x4, x5⟩
    rw [e]
    exact hS s hs hs'
/-- two calls without answer -/
def opV (m1 : Nat) (lv1 : am_V) (m2 : Nat) (lv2 : am_V) (h : am_M) : Prop := ∃ h1 h2 : am_M, mv 50 m1 lv1 h none h1 ∧ mv 50 m2 lv2 h1 none h2 ∧ Iv h2
theorem md_image (h : am_M) : ∃ h2, (∀ c, ¬ (c = 64 ∨ c = 107 ∨ c = 98 ∨ c = 99 ∨ c = 100 ∨ c = 101 ∨ c = 102 ∨ c = 103 ∨ c = 104 ∨ c = 105 ∨ c = 106) → h2 c = h c) ∧ h2 64 = (am_set (am_set (am_set h 64 3 0) 64 51 1) 64 52 (h 64 28)) 64 ∧ (∀ j, j < 80 → h2 98 j = h 82 j ∧ h2 99 j = h 83 j ∧ h2 100 j = h 84 j ∧ h2 101 j = h 85 j ∧ h2 102 j = h 86 j ∧ h2 107 j = nbq (h 87 j)) ∧ (∀ j, j < 5 → h2 103 j = h 77 j ∧ h2 104 j = h 79 j ∧ h2 105 j = h 80 j) ∧ (∀ j, j < 3 → h2 106 j = h 78 j) ∧ mv 1 202 [some (.ref 64), none] h none h2 := by
  obtain ⟨h0, hh0⟩ : ∃ h0, h0 = (am_set (am_set (am_set h 64 3 0) 64 51 1) 64 52 (h 64 28)) := ⟨_, rfl⟩
  have z0 : ∀ c, c ≠ 64 → h0 c = h c := fun c e => by rw [hh0, as_cell _ _ _ e, as_cell _ _ _ e, as_cell _ _ _ e]
  obtain ⟨k1, a1, b1, m1⟩ := be_98_82 h0
  obtain ⟨k2, a2, b2, m2⟩ := be_99_83 k1
  obtain ⟨k3, a3, b3, m3⟩ := be_100_84 k2
  obtain ⟨k4, a4, b4, m4⟩ := be_101_85 k3
  obtain ⟨k5, a5, b5, m5⟩ := be_102_86 k4
  obtain ⟨k6, a6, b6, m6⟩ := be_103_77 k5
  obtain ⟨k7, a7, b7, m7⟩ := be_104_79 k6
  obtain ⟨k8, a8, b8, m8⟩ := be_105_80 k7
  obtain ⟨k9, a9, b9, m9⟩ := be_106_78 k8
  obtain ⟨k10, a10, b10, m10⟩ := lp_202 k9
  refine ⟨k10, fun c e => ?_, ?_, fun j hj => ⟨?_, ?_, ?_, ?_, ?_, ?_⟩, fun j hj => ⟨?_, ?_, ?_⟩, fun j hj => ?_, fun d L xs o g Q T hq => ?_⟩
  · rw [a10 c (by omega), a9 c (by omega), a8 c (by omega), a7 c (by omega), a6 c (by omega), a5 c (by omega), a4 c (by omega), a3 c (by omega), a2 c (by omega), a1 c (by omega), z0 c (by omega)]
  · rw [a10 64 (by decide), a9 64 (by decide), a8 64 (by decide), a7 64 (by decide), a6 64 (by decide), a5 64 (by decide), a4 64 (by decide), a3 64 (by decide), a2 64 (by decide), a1 64 (by decide), hh0]
  · rw [a10 98 (by decide), a9 98 (by decide), a8 98 (by decide), a7 98 (by decide), a6 98 (by decide), a5 98 (by decide), a4 98 (by decide), a3 98 (by decide), a2 98 (by decide), b1 j hj, z0 82 (by decide)]
  · rw [a10 99 (by decide), a9 99 (by decide), a8 99 (by decide), a7 99 (by decide), a6 99 (by decide), a5 99 (by decide), a4 99 (by decide), a3 99 (by decide), b2 j hj, a1 83 (by decide), z0 83 (by decide)]
  · rw [a10 100 (by decide), a9 100 (by decide), a8 100 (by decide), a7 100 (by decide), a6 100 (by decide), a5 100 (by decide), a4 100 (by decide), b3 j hj, a2 84 (by decide), a1 84 (by decide), z0 84 (by decide)]
  · rw [a10 101 (by decide), a9 101 (by decide), a8 101 (by decide), a7 101 (by decide), a6 101 (by decide), a5 101 (by decide), b4 j hj, a3 85 (by decide), a2 85 (by decide), a1 85 (by decide), z0 85 (by decide)]
  · rw [a10 102 (by decide), a9 102 (by decide), a8 102 (by decide), a7 102 (by decide), a6 102 (by decide), b5 j hj, a4 86 (by decide), a3 86 (by decide), a2 86 (by decide), a1 86 (by decide), z0 86 (by decide)]
  · rw [b10 j hj, a9 87 (by decide), a8 87 (by decide), a7 87 (by decide), a6 87 (by decide), a5 87 (by decide), a4 87 (by decide), a3 87 (by decide), a2 87 (by decide), a1 87 (by decide), z0 87 (by decide)]
  · rw [a10 103 (by decide), a9 103 (by decide), a8 103 (by decide), a7 103 (by decide), b6 j hj, a5 77 (by decide), a4 77 (by decide), a3 77 (by decide), a2 77 (by decide), a1 77 (by decide), z0 77 (by decide)]
  · rw [a10 104 (by decide), a9 104 (by decide), a8 104 (by decide), b7 j hj, a6 79 (by decide), a5 79 (by decide), a4 79 (by decide), a3 79 (by decide), a2 79 (by decide), a1 79 (by decide), z0 79 (by decide)]
  · rw [a10 105 (by decide), a9 105 (by decide), b8 j hj, a7 80 (by decide), a6 80 (by decide), a5 80 (by decide), a4 80 (by decide), a3 80 (by decide), a2 80 (by decide), a1 80 (by decide), z0 80 (by decide)]
  · rw [a10 106 (by decide), b9 j hj, a8 78 (by decide), a7 78 (by decide), a6 78 (by decide), a5 78 (by decide), a4 78 (by decide), a3 78 (by decide), a2 78 (by decide), a1 78 (by decide), z0 78 (by decide)]
  · subst hh0
    exact sm_202 (m1.use (sm_202_29 rfl (m2.use (sm_202_40 rfl (m3.use (sm_202_51 rfl (m4.use (sm_202_62 rfl (m5.use (sm_202_73 rfl (m6.use (sm_202_84 rfl (m7.use (sm_202_95 rfl (m8.use (sm_202_106 rfl (m9.use (sm_202_117 rfl (m10 _ _ _ _ _ _ _ hq)))))))))))))))))))
theorem md_restore (h : am_M) (hI : ¬ h 64 51 = 0) : ∃ h2, (∀ c, ¬ (c = 64 ∨ c = 87 ∨ c = 82 ∨ c = 83 ∨ c = 84 ∨ c = 85 ∨ c = 86 ∨ c = 77 ∨ c = 79 ∨ c = 80 ∨ c = 78) → h2 c = h c) ∧ h2 64 = (am_set (am_set h 64 3 0) 64 28 (h 64 52)) 64 ∧ (∀ j, j < 80 → h2 82 j = h 98 j ∧ h2 83 j = h 99 j ∧ h2 84 j = h 100 j ∧ h2 85 j = h 101 j ∧ h2 86 j = h 102 j ∧ h2 87 j = nbq (h 107 j)) ∧ (∀ j, j < 5 → h2 77 j = h 103 j ∧ h2 79 j = h 104 j ∧ h2 80 j = h 105 j) ∧ (∀ j, j < 3 → h2 78 j = h 106 j) ∧ mv 1 204 [some (.ref 64), none] h (some (.int 1)) h2 := by
  obtain ⟨h0, hh0⟩ : ∃ h0, h0 = (am_set (am_set h 64 3 0) 64 28 (h 64 52)) := ⟨_, rfl⟩
  have z0 : ∀ c, c ≠ 64 → h0 c = h c := fun c e => by rw [hh0, as_cell _ _ _ e, as_cell _ _ _ e]
  obtain ⟨k1, a1, b1, m1⟩ := be_82_98 h0
  obtain ⟨k2, a2, b2, m2⟩ := be_83_99 k1
  obtain ⟨k3, a3, b3, m3⟩ := be_84_100 k2
  obtain ⟨k4, a4, b4, m4⟩ := be_85_101 k3
  obtain ⟨k5, a5, b5, m5⟩ := be_86_102 k4
  obtain ⟨k6, a6, b6, m6⟩ := be_77_103 k5
  obtain ⟨k7, a7, b7, m7⟩ := be_79_104 k6
  obtain ⟨k8, a8, b8, m8⟩ := be_80_105 k7
  obtain ⟨k9, a9, b9, m9⟩ := be_78_106 k8
  obtain ⟨k10, a10, b10, m10⟩ := lp_204 k9
  refine ⟨k10, fun c e => ?_, ?_, fun j hj => ⟨?_, ?_, ?_, ?_, ?_, ?_⟩, fun j hj => ⟨?_, ?_, ?_⟩, fun j hj => ?_, fun d L xs o g Q T hq => ?_⟩
  · rw [a10 c (by omega), a9 c (by omega), a8 c (by omega), a7 c (by omega), a6 c (by omega), a5 c (by omega), a4 c (by omega), a3 c (by omega), a2 c (by omega), a1 c (by omega), z0 c (by omega)]
  · rw [a10 64 (by decide), a9 64 (by decide), a8 64 (by decide), a7 64 (by decide), a6 64 (by decide), a5 64 (by decide), a4 64 (by decide), a3 64 (by decide), a2 64 (by decide), a1 64 (by decide), hh0]
  · rw [a10 82 (by decide), a9 82 (by decide), a8 82 (by decide), a7 82 (by decide), a6 82 (by decide), a5 82 (by decide), a4 82 (by decide), a3 82 (by decide), a2 82 (by decide), b1 j hj, z0 98 (by decide)]
  · rw [a10 83 (by decide), a9 83 (by decide), a8 83 (by decide), a7 83 (by decide), a6 83 (by decide), a5 83 (by decide), a4 83 (by decide), a3 83 (by decide), b2 j hj, a1 99 (by decide), z0 99 (by decide)]
  · rw [a10 84 (by decide), a9 84 (by decide), a8 84 (by decide), a7 84 (by decide), a6 84 (by decide), a5 84 (by decide), a4 84 (by decide), b3 j hj, a2 100 (by decide), a1 100 (by decide), z0 100 (by decide)]
  · rw [a10 85 (by decide), a9 85 (by decide), a8 85 (by decide), a7 85 (by decide), a6 85 (by decide), a5 85 (by decide), b4 j hj, a3 101 (by decide), a2 101 (by decide), a1 101 (by decide), z0 101 (by decide)]
  · rw [a10 86 (by decide), a9 86 (by decide), a8 86 (by decide), a7 86 (by decide), a6 86 (by decide), b5 j hj, a4 102 (by decide), a3 102 (by decide), a2 102 (by decide), a1 102 (by decide), z0 102 (by decide)]
  · rw [b10 j hj, a9 107 (by decide), a8 107 (by decide), a7 107 (by decide), a6 107 (by decide), a5 107 (by decide), a4 107 (by decide), a3 107 (by decide), a2 107 (by decide), a1 107 (by decide), z0 107 (by decide)]
  · rw [a10 77 (by decide), a9 77 (by decide), a8 77 (by decide), a7 77 (by decide), b6 j hj, a5 103 (by decide), a4 103 (by decide), a3 103 (by decide), a2 103 (by decide), a1 103 (by decide), z0 103 (by decide)]
  · rw [a10 79 (by decide), a9 79 (by decide), a8 79 (by decide), b7 j hj, a6 104 (by decide), a5 104 (by decide), a4 104 (by decide), a3 104 (by decide), a2 104 (by decide), a1 104 (by decide), z0 104 (by decide)]
  · rw [a10 80 (by decide), a9 80 (by decide), b8 j hj, a7 105 (by decide), a6 105 (by decide), a5 105 (by decide), a4 105 (by decide), a3 105 (by decide), a2 105 (by decide), a1 105 (by decide), z0 105 (by decide)]
  · rw [a10 78 (by decide), b9 j hj, a8 106 (by decide), a7 106 (by decide), a6 106 (by decide), a5 106 (by decide), a4 106 (by decide), a3 106 (by decide), a2 106 (by decide), a1 106 (by decide), z0 106 (by decide)]
  · subst hh0
    exact sm_204 (am_iff hI (m1.use (sm_204_33 rfl (m2.use (sm_204_44 rfl (m3.use (sm_204_55 rfl (m4.use (sm_204_66 rfl (m5.use (sm_204_77 rfl (m6.use (sm_204_88 rfl (m7.use (sm_204_99 rfl (m8.use (sm_204_110 rfl (m9.use (sm_204_121 rfl (m10 _ _ _ _ _ _ _ hq))))))))))))))))))))
theorem op_image {h : am_M} (hI : Iv h) : opV 20 [some (.ref 0)] 202 [some (.ref 64), none] h := by
  have hI' := hI
  obtain ⟨hT, hP, hNN, hII, hR, hK⟩ := hI'
  obtain ⟨N, hN, e1, e2, hE, hG, hJ, hS⟩ := hNN
  have hNN := hI.2.2.1
  obtain ⟨hc, f1, f2, f3, f4, f5, f6, M1⟩ := cp_21_34_23 h hN e1
  obtain ⟨h2, g1, g2, g4, g5, g6, M2⟩ := md_image (am_set hc 0 5 1)
  have A : mv 50 20 [some (.ref 0)] h none (am_set hc 0 5 1) := fun d L xs o g Q T hq => sm_20 (M1.use (sm_20_11 hq))
  have B : mv 50 202 [some (.ref 64), none] (am_set hc 0 5 1) none h2 := M2.more 49
  have he : ∀ c, ¬ (c = 64 ∨ 98 ≤ c ∨ c = 0 ∨ (34 ≤ c ∧ c ≤ 44)) → h2 c = h c := fun c e => by
    rw [g1 c (by omega), as_cell _ _ _ (by omega), f1 c (by omega)]
  have hs : ∀ j, ¬ (j = 3 ∨ j = 51 ∨ j = 52) → h2 64 j = h 64 j := fun j e => by
    rw [g2, as_slot _ _ _ (by omega), as_slot _ _ _ (by omega), as_slot _ _ _ (by omega)]
    show hc 64 j = h 64 j
    rw [f1 64 (by decide)]
  have h0 : ∀ j, ¬ j = 5 → h2 0 j = h 0 j := fun j e => by
    rw [g1 0 (by decide), as_slot _ _ _ e, f1 0 (by decide)]
  refine ⟨_, h2, A, B, ?_, ?_, ?_, ?_, ?_, ?_⟩
  · unfold iv_T
    rw [he 1 (by decide), he 2 (by decide), he 81 (by decide), hs 18 (by decide), hs 27 (by decide)]
    exact hT
  · unfold iv_P iv_S iv_B
    rw [he 3 (by decide), he 4 (by decide), he 5 (by decide), he 6 (by decide), he 7 (by decide), he 8 (by decide), he 9 (by decide), he 10 (by decide), he 11 (by decide), he 12 (by decide), he 68 (by decide), he 69 (by decide), he 70 (by decide), he 71 (by decide), he 72 (by decide), he 73 (by decide), he 74 (by decide), he 75 (by decide), he 76 (by decide)]
    exact hP
  · unfold iv_N
    rw [he 3 (by decide), he 12 (by decide), he 23 (by decide), he 4 (by decide), he 5 (by decide), he 24 (by decide), he 25 (by decide), he 26 (by decide), he 27 (by decide), he 28 (by decide), he 29 (by decide), he 30 (by decide), he 31 (by decide), he 32 (by decide), he 33 (by decide), he 82 (by decide), he 83 (by decide), he 84 (by decide), he 85 (by decide), he 87 (by decide), he 86 (by decide), he 77 (by decide), he 79 (by decide), he 80 (by decide), he 78 (by decide), hs 28 (by decide)]
    exact hNN
  · have e0 : h2 0 5 = 1 := by rw [g1 0 (by decide), as_self]
    have e51 : h2 64 51 = 1 := by rw [g2]; rfl
    have e52 : h2 64 52 = h 64 28 := by
      rw [g2]
      show hc 64 28 = h 64 28
      rw [f1 64 (by decide)]
    refine ⟨e51.trans e0.symm, .inr ⟨e0, ?_⟩⟩
    have e34 : h2 34 0 = h 23 0 := by
      rw [g1 34 (by decide), as_cell _ _ _ (by decide), f3, e1]
    rw [he 3 (by decide), he 12 (by decide), he 4 (by decide), he 5 (by decide), e34, e52]
    refine iv_cp hNN (fun N' hN' eN j hj u => ?_) (fun j hj => ?_) (fun j hj => ?_)
    · have hj' : j < N := by
        rw [e1, nz_inj (by omega) (by omega)] at eN
        omega
      have x := f4 j hj'
      have y := g4 j (by omega)
      have ub := u.1.2.2.2.2.2.2
      have ub' : h 87 j = 0 ∨ h 87 j = 1 := by rw [u.2.1.2.2]; exact ub
      refine ⟨⟨?_, ?_, ?_, ?_, ?_, ?_⟩, ?_, ?_, ?_, ?_, ?_, ?_⟩
      · rw [g1 35 (by decide), as_cell _ _ _ (by decide), x.1]
      · rw [g1 36 (by decide), as_cell _ _ _ (by decide), x.2.1]
      · rw [g1 37 (by decide), as_cell _ _ _ (by decide), x.2.2.1]
      · rw [g1 38 (by decide), as_cell _ _ _ (by decide), x.2.2.2.1]
      · rw [g1 39 (by decide), as_cell _ _ _ (by decide), x.2.2.2.2.1, nbq_b ub]
      · rw [g1 40 (by decide), as_cell _ _ _ (by decide), x.2.2.2.2.2]
      · rw [y.1, as_cell _ _ _ (by decide), f1 82 (by decide)]
      · rw [y.2.1, as_cell _ _ _ (by decide), f1 83 (by decide)]
      · rw [y.2.2.1, as_cell _ _ _ (by decide), f1 84 (by decide)]
      · rw [y.2.2.2.1, as_cell _ _ _ (by decide), f1 85 (by decide)]
      · rw [y.2.2.2.2.2, as_cell _ _ _ (by decide), f1 87 (by decide), nbq_b ub']
      · rw [y.2.2.2.2.1, as_cell _ _ _ (by decide), f1 86 (by decide)]
    · have x := f5 j hj
      have y := g5 j hj
      refine ⟨?_, ?_, ?_, ?_, ?_, ?_⟩
      · rw [g1 41 (by decide), as_cell _ _ _ (by decide), x.1]
      · rw [g1 42 (by decide), as_cell _ _ _ (by decide), x.2.1]
      · rw [g1 43 (by decide), as_cell _ _ _ (by decide), x.2.2]
      · rw [y.1, as_cell _ _ _ (by decide), f1 77 (by decide)]
      · rw [y.2.1, as_cell _ _ _ (by decide), f1 79 (by decide)]
      · rw [y.2.2, as_cell _ _ _ (by decide), f1 80 (by decide)]
    · refine ⟨?_, ?_⟩
      · rw [g1 44 (by decide), as_cell _ _ _ (by decide), f6 j hj]
      · rw [g6 j hj, as_cell _ _ _ (by decide), f1 78 (by decide)]
  · unfold iv_R
    rw [hs 45 (by decide), h0 11 (by decide), he 3 (by decide), he 93 (by decide), he 94 (by decide), he 62 (by decide), he 63 (by decide)]
    exact hR
  · unfold iv_K
    rw [he 67 (by decide)]
    exact hK
theorem op_restore {h : am_M} (hI : Iv h) : opR 22 [some (.ref 0)] 204 [some (.ref 64), none] cdN h := by
  have hI' := hI
  obtain ⟨hT, hP, hNN, hII, hR, hK⟩ := hI'
  rcases hII.2 with i0 | ⟨i1, iJ⟩
  · have i0' : h 64 51 = 0 := hII.1.trans i0
    exact ⟨0, 0, 0, h, am_set h 64 3 0, .v fun d L xs o g Q T hq => sm_22 (am_ift i0 hq), fun d L xs o g Q T hq => sm_204 (am_ift i0' hq), hI, rfl, fun _ => rfl, by decide⟩
  have z0 : ¬ h 0 5 = 0 := by rw [i1]; decide
  have iJ' := iJ
  obtain ⟨N, hN, e1, e2, hE, hG, hJ, hS⟩ := iJ'
  obtain ⟨hc, f1, f2, f3, f4, f5, f6, M1⟩ := cp_21_23_34 h hN e1
  have z1 : ¬ hc 64 51 = 0 := by rw [f1 64 (by decide), hII.1]; exact z0
  obtain ⟨h2, g1, g2, g4, g5, g6, M2⟩ := md_restore hc z1
  have A : mv 50 22 [some (.ref 0)] h (some (.int 1)) hc := fun d L xs o g Q T hq => sm_22 (am_iff z0 (M1.use (sm_22_20 rfl hq)))
  have B : mv 50 204 [some (.ref 64), none] hc (some (.int 1)) h2 := M2.more 49
  have he : ∀ c, ¬ (c = 64 ∨ (23 ≤ c ∧ c ≤ 33) ∨ (77 ≤ c ∧ c ≤ 80) ∨ (82 ≤ c ∧ c ≤ 87)) → h2 c = h c := fun c e => by
    rw [g1 c (by omega), f1 c (by omega)]
  have hs : ∀ j, ¬ (j = 3 ∨ j = 28) → h2 64 j = h 64 j := fun j e => by
    rw [g2, as_slot _ _ _ (by omega), as_slot _ _ _ (by omega), f1 64 (by decide)]
  refine ⟨0, 1, 1, hc, h2, .v A, B, ⟨?_, ?_, ?_, ?_, ?_, ?_⟩, by rw [g2]; rfl, fun _ => rfl, by decide⟩
  · unfold iv_T
    rw [he 1 (by decide), he 2 (by decide), he 81 (by decide), hs 18 (by decide), hs 27 (by decide)]
    exact hT
  · unfold iv_P iv_S iv_B
    rw [he 3 (by decide), he 4 (by decide), he 5 (by decide), he 6 (by decide), he 7 (by decide), he 8 (by decide), he 9 (by decide), he 10 (by decide), he 11 (by decide), he 12 (by decide), he 68 (by decide), he 69 (by decide), he 70 (by decide), he 71 (by decide), he 72 (by decide), he 73 (by decide), he 74 (by decide), he 75 (by decide), he 76 (by decide)]
    exact hP
  · have e28 : h2 64 28 = h 64 52 := by
      rw [g2]
      show hc 64 52 = h 64 52
      rw [f1 64 (by decide)]
    have e23 : h2 23 0 = h 34 0 := by
      rw [g1 23 (by decide), f3, e1]
    unfold iv_N
    rw [he 3 (by decide), he 12 (by decide), he 4 (by decide), he 5 (by decide), e23, e28]
    refine iv_cp iJ (fun N' hN' eN j hj u => ?_) (fun j hj => ?_) (fun j hj => ?_)
    · have hj' : j < N := by
        rw [e1, nz_inj (by omega) (by omega)] at eN
        omega
      have x := f4 j hj'
      have y := g4 j (by omega)
      have ub := u.1.2.2.2.2.2.2
      have ub' : h 107 j = 0 ∨ h 107 j = 1 := by rw [u.2.1.2.2]; exact ub
      refine ⟨⟨?_, ?_, ?_, ?_, ?_, ?_⟩, ?_, ?_, ?_, ?_, ?_, ?_⟩
      · rw [g1 24 (by decide), x.1]
      · rw [g1 25 (by decide), x.2.1]
      · rw [g1 26 (by decide), x.2.2.1]
      · rw [g1 27 (by decide), x.2.2.2.1]
      · rw [g1 28 (by decide), x.2.2.2.2.1, nbq_b ub]
      · rw [g1 29 (by decide), x.2.2.2.2.2]
      · rw [y.1, f1 98 (by decide)]
      · rw [y.2.1, f1 99 (by decide)]
      · rw [y.2.2.1, f1 100 (by decide)]
      · rw [y.2.2.2.1, f1 101 (by decide)]
      · rw [y.2.2.2.2.2, f1 107 (by decide), nbq_b ub']
      · rw [y.2.2.2.2.1, f1 102 (by decide)]
    · have x := f5 j hj
      have y := g5 j hj
      refine ⟨?_, ?_, ?_, ?_, ?_, ?_⟩
      · rw [g1 30 (by decide), x.1]
      · rw [g1 31 (by decide), x.2.1]
      · rw [g1 32 (by decide), x.2.2]
      · rw [y.1, f1 103 (by decide)]
      · rw [y.2.1, f1 104 (by decide)]
      · rw [y.2.2, f1 105 (by decide)]
    · refine ⟨?_, ?_⟩
      · rw [g1 33 (by decide), f6 j hj]
      · rw [g6 j hj, f1 106 (by decide)]
  · unfold iv_I
    rw [hs 51 (by decide), hs 52 (by decide), he 0 (by decide), he 3 (by decide), he 12 (by decide), he 34 (by decide), he 4 (by decide), he 5 (by decide), he 35 (by decide), he 36 (by decide), he 37 (by decide), he 38 (by decide), he 39 (by decide), he 40 (by decide), he 41 (by decide), he 42 (by decide), he 43 (by decide), he 44 (by decide), he 98 (by decide), he 99 (by decide), he 100 (by decide), he 101 (by decide), he 107 (by decide), he 102 (by decide), he 103 (by decide), he 104 (by decide), he 105 (by decide), he 106 (by decide)]
    exact hII
  · unfold iv_R
    rw [hs 45 (by decide), he 0 (by decide), he 3 (by decide), he 93 (by decide), he 94 (by decide), he 62 (by decide), he 63 (by decide)]
    exact hR
  · unfold iv_K
    rw [he 67 (by decide)]
    exact hK
