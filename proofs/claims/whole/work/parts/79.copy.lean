/-! ===== image, restore: copies ===== -/
theorem be_98_82 (h : am_M) : ∃ h1, (∀ c, c ≠ 98 → h1 c = h c) ∧ (∀ j, j < 80 → h1 98 j = h 82 j) ∧ mv 0 203 [some (.ref 98), some (.ref 82), none] h none h1 := by
  have key : ∀ (m k : Nat) (h' : am_M), k + m = 80 → (∀ c, c ≠ 98 → h' c = h c) → (∀ j, j < k → h' 98 j = h 82 j) → ∃ h1, (∀ c, c ≠ 98 → h1 c = h c) ∧ (∀ j, j < 80 → h1 98 j = h 82 j) ∧ ∀ (d L : Nat) (xs : Nat → Int32) (o : am_L) (g : Nat) (Q : Option Value → am_M → am_L → Nat → Prop) (T : Nat → am_M → am_L → Nat → Prop), Q none h1 o g → am_X L xs d 203 2 [some (.ref 98), some (.ref 82), some (.int (Int32.ofNat k))] [] am_C0 h' o g Q T := by
    intro m
    induction m with
    | zero =>
      intro k h' hk hc hj
      have : k = 80 := by omega
      subst this
      exact ⟨h', hc, hj, fun d L xs o g Q T hq => sm_203_98_82_2 (am_iff (by decide) hq)⟩
    | succ m ih =>
      intro k h' hk hc hj
      obtain ⟨h1, g1, g2, g3⟩ := ih (k + 1) (am_set h' 98 k (h' 82 k)) (by omega) (fun c e => by rw [as_cell _ _ _ e]; exact hc c e) (fun j hj' => by
        rw [hc 82 (by decide)]
        by_cases e : j = k
        · subst e; rw [as_self]
        · rw [as_slot _ _ _ e]; exact hj j (by omega))
      refine ⟨h1, g1, g2, fun d L xs o g Q T hq => sm_203_98_82_2 (am_ift ?_ ⟨ix_n (by omega) (by decide), ?_⟩)⟩
      · show Int32.ofNat k < Int32.ofNat 80
        rw [nz_nlt (by omega) (by decide)]; omega
      · rw [nz_c k (by omega), nz_succ k]
        exact g3 d L xs o g Q T hq
  obtain ⟨h1, g1, g2, g3⟩ := key 80 0 h (by omega) (fun _ _ => rfl) (fun j hj => by omega)
  exact ⟨h1, g1, g2, fun d L xs o g Q T hq => sm_203_98_82 (g3 _ _ _ _ _ _ _ hq)⟩
theorem be_82_98 (h : am_M) : ∃ h1, (∀ c, c ≠ 82 → h1 c = h c) ∧ (∀ j, j < 80 → h1 82 j = h 98 j) ∧ mv 0 203 [some (.ref 82), some (.ref 98), none] h none h1 := by
  have key : ∀ (m k : Nat) (h' : am_M), k + m = 80 → (∀ c, c ≠ 82 → h' c = h c) → (∀ j, j < k → h' 82 j = h 98 j) → ∃ h1, (∀ c, c ≠ 82 → h1 c = h c) ∧ (∀ j, j < 80 → h1 82 j = h 98 j) ∧ ∀ (d L : Nat) (xs : Nat → Int32) (o : am_L) (g : Nat) (Q : Option Value → am_M → am_L → Nat → Prop) (T : Nat → am_M → am_L → Nat → Prop), Q none h1 o g → am_X L xs d 203 2 [some (.ref 82), some (.ref 98), some (.int (Int32.ofNat k))] [] am_C0 h' o g Q T := by
    intro m
    induction m with
    | zero =>
      intro k h' hk hc hj
      have : k = 80 := by omega
      subst this
      exact ⟨h', hc, hj, fun d L xs o g Q T hq => sm_203_82_98_2 (am_iff (by decide) hq)⟩
    | succ m ih =>
      intro k h' hk hc hj
      obtain ⟨h1, g1, g2, g3⟩ := ih (k + 1) (am_set h' 82 k (h' 98 k)) (by omega) (fun c e => by rw [as_cell _ _ _ e]; exact hc c e) (fun j hj' => by
        rw [hc 98 (by decide)]
        by_cases e : j = k
        · subst e; rw [as_self]
        · rw [as_slot _ _ _ e]; exact hj j (by omega))
      refine ⟨h1, g1, g2, fun d L xs o g Q T hq => sm_203_82_98_2 (am_ift ?_ ⟨ix_n (by omega) (by decide), ?_⟩)⟩
      · show Int32.ofNat k < Int32.ofNat 80
        rw [nz_nlt (by omega) (by decide)]; omega
      · rw [nz_c k (by omega), nz_succ k]
        exact g3 d L xs o g Q T hq
  obtain ⟨h1, g1, g2, g3⟩ := key 80 0 h (by omega) (fun _ _ => rfl) (fun j hj => by omega)
  exact ⟨h1, g1, g2, fun d L xs o g Q T hq => sm_203_82_98 (g3 _ _ _ _ _ _ _ hq)⟩
theorem be_99_83 (h : am_M) : ∃ h1, (∀ c, c ≠ 99 → h1 c = h c) ∧ (∀ j, j < 80 → h1 99 j = h 83 j) ∧ mv 0 203 [some (.ref 99), some (.ref 83), none] h none h1 := by
  have key : ∀ (m k : Nat) (h' : am_M), k + m = 80 → (∀ c, c ≠ 99 → h' c = h c) → (∀ j, j < k → h' 99 j = h 83 j) → ∃ h1, (∀ c, c ≠ 99 → h1 c = h c) ∧ (∀ j, j < 80 → h1 99 j = h 83 j) ∧ ∀ (d L : Nat) (xs : Nat → Int32) (o : am_L) (g : Nat) (Q : Option Value → am_M → am_L → Nat → Prop) (T : Nat → am_M → am_L → Nat → Prop), Q none h1 o g → am_X L xs d 203 2 [some (.ref 99), some (.ref 83), some (.int (Int32.ofNat k))] [] am_C0 h' o g Q T := by
    intro m
    induction m with
    | zero =>
      intro k h' hk hc hj
      have : k = 80 := by omega
      subst this
      exact ⟨h', hc, hj, fun d L xs o g Q T hq => sm_203_99_83_2 (am_iff (by decide) hq)⟩
    | succ m ih =>
      intro k h' hk hc hj
      obtain ⟨h1, g1, g2, g3⟩ := ih (k + 1) (am_set h' 99 k (h' 83 k)) (by omega) (fun c e => by rw [as_cell _ _ _ e]; exact hc c e) (fun j hj' => by
        rw [hc 83 (by decide)]
        by_cases e : j = k
        · subst e; rw [as_self]
        · rw [as_slot _ _ _ e]; exact hj j (by omega))
      refine ⟨h1, g1, g2, fun d L xs o g Q T hq => sm_203_99_83_2 (am_ift ?_ ⟨ix_n (by omega) (by decide), ?_⟩)⟩
      · show Int32.ofNat k < Int32.ofNat 80
        rw [nz_nlt (by omega) (by decide)]; omega
      · rw [nz_c k (by omega), nz_succ k]
        exact g3 d L xs o g Q T hq
  obtain ⟨h1, g1, g2, g3⟩ := key 80 0 h (by omega) (fun _ _ => rfl) (fun j hj => by omega)
  exact ⟨h1, g1, g2, fun d L xs o g Q T hq => sm_203_99_83 (g3 _ _ _ _ _ _ _ hq)⟩
theorem be_83_99 (h : am_M) : ∃ h1, (∀ c, c ≠ 83 → h1 c = h c) ∧ (∀ j, j < 80 → h1 83 j = h 99 j) ∧ mv 0 203 [some (.ref 83), some (.ref 99), none] h none h1 := by
  have key : ∀ (m k : Nat) (h' : am_M), k + m = 80 → (∀ c, c ≠ 83 → h' c = h c) → (∀ j, j < k → h' 83 j = h 99 j) → ∃ h1, (∀ c, c ≠ 83 → h1 c = h c) ∧ (∀ j, j < 80 → h1 83 j = h 99 j) ∧ ∀ (d L : Nat) (xs : Nat → Int32) (o : am_L) (g : Nat) (Q : Option Value → am_M → am_L → Nat → Prop) (T : Nat → am_M → am_L → Nat → Prop), Q none h1 o g → am_X L xs d 203 2 [some (.ref 83), some (.ref 99), some (.int (Int32.ofNat k))] [] am_C0 h' o g Q T := by
    intro m
    induction m with
    | zero =>
      intro k h' hk hc hj
      have : k = 80 := by omega
      subst this
      exact ⟨h', hc, hj, fun d L xs o g Q T hq => sm_203_83_99_2 (am_iff (by decide) hq)⟩
    | succ m ih =>
      intro k h' hk hc hj
      obtain ⟨h1, g1, g2, g3⟩ := ih (k + 1) (am_set h' 83 k (h' 99 k)) (by omega) (fun c e => by rw [as_cell _ _ _ e]; exact hc c e) (fun j hj' => by
        rw [hc 99 (by decide)]
        by_cases e : j = k
        · subst e; rw [as_self]
        · rw [as_slot _ _ _ e]; exact hj j (by omega))
      refine ⟨h1, g1, g2, fun d L xs o g Q T hq => sm_203_83_99_2 (am_ift ?_ ⟨ix_n (by omega) (by decide), ?_⟩)⟩
      · show Int32.ofNat k < Int32.ofNat 80
        rw [nz_nlt (by omega) (by decide)]; omega
      · rw [nz_c k (by omega), nz_succ k]
        exact g3 d L xs o g Q T hq
  obtain ⟨h1, g1, g2, g3⟩ := key 80 0 h (by omega) (fun _ _ => rfl) (fun j hj => by omega)
  exact ⟨h1, g1, g2, fun d L xs o g Q T hq => sm_203_83_99 (g3 _ _ _ _ _ _ _ hq)⟩
theorem be_100_84 (h : am_M) : ∃ h1, (∀ c, c ≠ 100 → h1 c = h c) ∧ (∀ j, j < 80 → h1 100 j = h 84 j) ∧ mv 0 203 [some (.ref 100), some (.ref 84), none] h none h1 := by
  have key : ∀ (m k : Nat) (h' : am_M), k + m = 80 → (∀ c, c ≠ 100 → h' c = h c) → (∀ j, j < k → h' 100 j = h 84 j) → ∃ h1, (∀ c, c ≠ 100 → h1 c = h c) ∧ (∀ j, j < 80 → h1 100 j = h 84 j) ∧ ∀ (d L : Nat) (xs : Nat → Int32) (o : am_L) (g : Nat) (Q : Option Value → am_M → am_L → Nat → Prop) (T : Nat → am_M → am_L → Nat → Prop), Q none h1 o g → am_X L xs d 203 2 [some (.ref 100), some (.ref 84), some (.int (Int32.ofNat k))] [] am_C0 h' o g Q T := by
    intro m
    induction m with
    | zero =>
      intro k h' hk hc hj
      have : k = 80 := by omega
      subst this
      exact ⟨h', hc, hj, fun d L xs o g Q T hq => sm_203_100_84_2 (am_iff (by decide) hq)⟩
    | succ m ih =>
      intro k h' hk hc hj
      obtain ⟨h1, g1, g2, g3⟩ := ih (k + 1) (am_set h' 100 k (h' 84 k)) (by omega) (fun c e => by rw [as_cell _ _ _ e]; exact hc c e) (fun j hj' => by
        rw [hc 84 (by decide)]
        by_cases e : j = k
        · subst e; rw [as_self]
        · rw [as_slot _ _ _ e]; exact hj j (by omega))
      refine ⟨h1, g1, g2, fun d L xs o g Q T hq => sm_203_100_84_2 (am_ift ?_ ⟨ix_n (by omega) (by decide), ?_⟩)⟩
      · show Int32.ofNat k < Int32.ofNat 80
        rw [nz_nlt (by omega) (by decide)]; omega
      · rw [nz_c k (by omega), nz_succ k]
        exact g3 d L xs o g Q T hq
  obtain ⟨h1, g1, g2, g3⟩ := key 80 0 h (by omega) (fun _ _ => rfl) (fun j hj => by omega)
  exact ⟨h1, g1, g2, fun d L xs o g Q T hq => sm_203_100_84 (g3 _ _ _ _ _ _ _ hq)⟩
theorem be_84_100 (h : am_M) : ∃ h1, (∀ c, c ≠ 84 → h1 c = h c) ∧ (∀ j, j < 80 → h1 84 j = h 100 j) ∧ mv 0 203 [some (.ref 84), some (.ref 100), none] h none h1 := by
  have key : ∀ (m k : Nat) (h' : am_M), k + m = 80 → (∀ c, c ≠ 84 → h' c = h c) → (∀ j, j < k → h' 84 j = h 100 j) → ∃ h1, (∀ c, c ≠ 84 → h1 c = h c) ∧ (∀ j, j < 80 → h1 84 j = h 100 j) ∧ ∀ (d L : Nat) (xs : Nat → Int32) (o : am_L) (g : Nat) (Q : Option Value → am_M → am_L → Nat → Prop) (T : Nat → am_M → am_L → Nat → Prop), Q none h1 o g → am_X L xs d 203 2 [some (.ref 84), some (.ref 100), some (.int (Int32.ofNat k))] [] am_C0 h' o g Q T := by
    intro m
    induction m with
    | zero =>
      intro k h' hk hc hj
      have : k = 80 := by omega
      subst this
      exact ⟨h', hc, hj, fun d L xs o g Q T hq => sm_203_84_100_2 (am_iff (by decide) hq)⟩
    | succ m ih =>
      intro k h' hk hc hj
      obtain ⟨h1, g1, g2, g3⟩ := ih (k + 1) (am_set h' 84 k (h' 100 k)) (by omega) (fun c e => by rw [as_cell _ _ _ e]; exact hc c e) (fun j hj' => by
        rw [hc 100 (by decide)]
        by_cases e : j = k
        · subst e; rw [as_self]
        · rw [as_slot _ _ _ e]; exact hj j (by omega))
      refine ⟨h1, g1, g2, fun d L xs o g Q T hq => sm_203_84_100_2 (am_ift ?_ ⟨ix_n (by omega) (by decide), ?_⟩)⟩
      · show Int32.ofNat k < Int32.ofNat 80
        rw [nz_nlt (by omega) (by decide)]; omega
      · rw [nz_c k (by omega), nz_succ k]
        exact g3 d L xs o g Q T hq
  obtain ⟨h1, g1, g2, g3⟩ := key 80 0 h (by omega) (fun _ _ => rfl) (fun j hj => by omega)
  exact ⟨h1, g1, g2, fun d L xs o g Q T hq => sm_203_84_100 (g3 _ _ _ _ _ _ _ hq)⟩
theorem be_101_85 (h : am_M) : ∃ h1, (∀ c, c ≠ 101 → h1 c = h c) ∧ (∀ j, j < 80 → h1 101 j = h 85 j) ∧ mv 0 203 [some (.ref 101), some (.ref 85), none] h none h1 := by
  have key : ∀ (m k : Nat) (h' : am_M), k + m = 80 → (∀ c, c ≠ 101 → h' c = h c) → (∀ j, j < k → h' 101 j = h 85 j) → ∃ h1, (∀ c, c ≠ 101 → h1 c = h c) ∧ (∀ j, j < 80 → h1 101 j = h 85 j) ∧ ∀ (d L : Nat) (xs : Nat → Int32) (o : am_L) (g : Nat) (Q : Option Value → am_M → am_L → Nat → Prop) (T : Nat → am_M → am_L → Nat → Prop), Q none h1 o g → am_X L xs d 203 2 [some (.ref 101), some (.ref 85), some (.int (Int32.ofNat k))] [] am_C0 h' o g Q T := by
    intro m
    induction m with
    | zero =>
      intro k h' hk hc hj
      have : k = 80 := by omega
      subst this
      exact ⟨h', hc, hj, fun d L xs o g Q T hq => sm_203_101_85_2 (am_iff (by decide) hq)⟩
    | succ m ih =>
      intro k h' hk hc hj
      obtain ⟨h1, g1, g2, g3⟩ := ih (k + 1) (am_set h' 101 k (h' 85 k)) (by omega) (fun c e => by rw [as_cell _ _ _ e]; exact hc c e) (fun j hj' => by
        rw [hc 85 (by decide)]
        by_cases e : j = k
        · subst e; rw [as_self]
        · rw [as_slot _ _ _ e]; exact hj j (by omega))
      refine ⟨h1, g1, g2, fun d L xs o g Q T hq => sm_203_101_85_2 (am_ift ?_ ⟨ix_n (by omega) (by decide), ?_⟩)⟩
      · show Int32.ofNat k < Int32.ofNat 80
        rw [nz_nlt (by omega) (by decide)]; omega
      · rw [nz_c k (by omega), nz_succ k]
        exact g3 d L xs o g Q T hq
  obtain ⟨h1, g1, g2, g3⟩ := key 80 0 h (by omega) (fun _ _ => rfl) (fun j hj => by omega)
  exact ⟨h1, g1, g2, fun d L xs o g Q T hq => sm_203_101_85 (g3 _ _ _ _ _ _ _ hq)⟩
theorem be_85_101 (h : am_M) : ∃ h1, (∀ c, c ≠ 85 → h1 c = h c) ∧ (∀ j, j < 80 → h1 85 j = h 101 j) ∧ mv 0 203 [some (.ref 85), some (.ref 101), none] h none h1 := by
  have key : ∀ (m k : Nat) (h' : am_M), k + m = 80 → (∀ c, c ≠ 85 → h' c = h c) → (∀ j, j < k → h' 85 j = h 101 j) → ∃ h1, (∀ c, c ≠ 85 → h1 c = h c) ∧ (∀ j, j < 80 → h1 85 j = h 101 j) ∧ ∀ (d L : Nat) (xs : Nat → Int32) (o : am_L) (g : Nat) (Q : Option Value → am_M → am_L → Nat → Prop) (T : Nat → am_M → am_L → Nat → Prop), Q none h1 o g → am_X L xs d 203 2 [some (.ref 85), some (.ref 101), some (.int (Int32.ofNat k))] [] am_C0 h' o g Q T := by
    intro m
    induction m with
    | zero =>
      intro k h' hk hc hj
      have : k = 80 := by omega
      subst this
      exact ⟨h', hc, hj, fun d L xs o g Q T hq => sm_203_85_101_2 (am_iff (by decide) hq)⟩
    | succ m ih =>
      intro k h' hk hc hj
      obtain ⟨h1, g1, g2, g3⟩ := ih (k + 1) (am_set h' 85 k (h' 101 k)) (by omega) (fun c e => by rw [as_cell _ _ _ e]; exact hc c e) (fun j hj' => by
        rw [hc 101 (by decide)]
        by_cases e : j = k
        · subst e; rw [as_self]
        · rw [as_slot _ _ _ e]; exact hj j (by omega))
      refine ⟨h1, g1, g2, fun d L xs o g Q T hq => sm_203_85_101_2 (am_ift ?_ ⟨ix_n (by omega) (by decide), ?_⟩)⟩
      · show Int32.ofNat k < Int32.ofNat 80
        rw [nz_nlt (by omega) (by decide)]; omega
      · rw [nz_c k (by omega), nz_succ k]
        exact g3 d L xs o g Q T hq
  obtain ⟨h1, g1, g2, g3⟩ := key 80 0 h (by omega) (fun _ _ => rfl) (fun j hj => by omega)
  exact ⟨h1, g1, g2, fun d L xs o g Q T hq => sm_203_85_101 (g3 _ _ _ _ _ _ _ hq)⟩
theorem be_102_86 (h : am_M) : ∃ h1, (∀ c, c ≠ 102 → h1 c = h c) ∧ (∀ j, j < 80 → h1 102 j = h 86 j) ∧ mv 0 203 [some (.ref 102), some (.ref 86), none] h none h1 := by
  have key : ∀ (m k : Nat) (h' : am_M), k + m = 80 → (∀ c, c ≠ 102 → h' c = h c) → (∀ j, j < k → h' 102 j = h 86 j) → ∃ h1, (∀ c, c ≠ 102 → h1 c = h c) ∧ (∀ j, j < 80 → h1 102 j = h 86 j) ∧ ∀ (d L : Nat) (xs : Nat → Int32) (o : am_L) (g : Nat) (Q : Option Value → am_M → am_L → Nat → Prop) (T : Nat → am_M → am_L → Nat → Prop), Q none h1 o g → am_X L xs d 203 2 [some (.ref 102), some (.ref 86), some (.int (Int32.ofNat k))] [] am_C0 h' o g Q T := by
    intro m
    induction m with
    | zero =>
      intro k h' hk hc hj
      have : k = 80 := by omega
      subst this
      exact ⟨h', hc, hj, fun d L xs o g Q T hq => sm_203_102_86_2 (am_iff (by decide) hq)⟩
    | succ m ih =>
      intro k h' hk hc hj
      obtain ⟨h1, g1, g2, g3⟩ := ih (k + 1) (am_set h' 102 k (h' 86 k)) (by omega) (fun c e => by rw [as_cell _ _ _ e]; exact hc c e) (fun j hj' => by
        rw [hc 86 (by decide)]
        by_cases e : j = k
        · subst e; rw [as_self]
        · rw [as_slot _ _ _ e]; exact hj j (by omega))
      refine ⟨h1, g1, g2, fun d L xs o g Q T hq => sm_203_102_86_2 (am_ift ?_ ⟨ix_n (by omega) (by decide), ?_⟩)⟩
      · show Int32.ofNat k < Int32.ofNat 80
        rw [nz_nlt (by omega) (by decide)]; omega
      · rw [nz_c k (by omega), nz_succ k]
        exact g3 d L xs o g Q T hq
  obtain ⟨h1, g1, g2, g3⟩ := key 80 0 h (by omega) (fun _ _ => rfl) (fun j hj => by omega)
  exact ⟨h1, g1, g2, fun d L xs o g Q T hq => sm_203_102_86 (g3 _ _ _ _ _ _ _ hq)⟩
theorem be_86_102 (h : am_M) : ∃ h1, (∀ c, c ≠ 86 → h1 c = h c) ∧ (∀ j, j < 80 → h1 86 j = h 102 j) ∧ mv 0 203 [some (.ref 86), some (.ref 102), none] h none h1 := by
  have key : ∀ (m k : Nat) (h' : am_M), k + m = 80 → (∀ c, c ≠ 86 → h' c = h c) → (∀ j, j < k → h' 86 j = h 102 j) → ∃ h1, (∀ c, c ≠ 86 → h1 c = h c) ∧ (∀ j, j < 80 → h1 86 j = h 102 j) ∧ ∀ (d L : Nat) (xs : Nat → Int32) (o : am_L) (g : Nat) (Q : Option Value → am_M → am_L → Nat → Prop) (T : Nat → am_M → am_L → Nat → Prop), Q none h1 o g → am_X L xs d 203 2 [some (.ref 86), some (.ref 102), some (.int (Int32.ofNat k))] [] am_C0 h' o g Q T := by
    intro m
    induction m with
    | zero =>
      intro k h' hk hc hj
      have : k = 80 := by omega
      subst this
      exact ⟨h', hc, hj, fun d L xs o g Q T hq => sm_203_86_102_2 (am_iff (by decide) hq)⟩
    | succ m ih =>
      intro k h' hk hc hj
      obtain ⟨h1, g1, g2, g3⟩ := ih (k + 1) (am_set h' 86 k (h' 102 k)) (by omega) (fun c e => by rw [as_cell _ _ _ e]; exact hc c e) (fun j hj' => by
        rw [hc 102 (by decide)]
        by_cases e : j = k
        · subst e; rw [as_self]
        · rw [as_slot _ _ _ e]; exact hj j (by omega))
      refine ⟨h1, g1, g2, fun d L xs o g Q T hq => sm_203_86_102_2 (am_ift ?_ ⟨ix_n (by omega) (by decide), ?_⟩)⟩
      · show Int32.ofNat k < Int32.ofNat 80
        rw [nz_nlt (by omega) (by decide)]; omega
      · rw [nz_c k (by omega), nz_succ k]
        exact g3 d L xs o g Q T hq
  obtain ⟨h1, g1, g2, g3⟩ := key 80 0 h (by omega) (fun _ _ => rfl) (fun j hj => by omega)
  exact ⟨h1, g1, g2, fun d L xs o g Q T hq => sm_203_86_102 (g3 _ _ _ _ _ _ _ hq)⟩
theorem be_103_77 (h : am_M) : ∃ h1, (∀ c, c ≠ 103 → h1 c = h c) ∧ (∀ j, j < 5 → h1 103 j = h 77 j) ∧ mv 0 203 [some (.ref 103), some (.ref 77), none] h none h1 := by
  have key : ∀ (m k : Nat) (h' : am_M), k + m = 5 → (∀ c, c ≠ 103 → h' c = h c) → (∀ j, j < k → h' 103 j = h 77 j) → ∃ h1, (∀ c, c ≠ 103 → h1 c = h c) ∧ (∀ j, j < 5 → h1 103 j = h 77 j) ∧ ∀ (d L : Nat) (xs : Nat → Int32) (o : am_L) (g : Nat) (Q : Option Value → am_M → am_L → Nat → Prop) (T : Nat → am_M → am_L → Nat → Prop), Q none h1 o g → am_X L xs d 203 2 [some (.ref 103), some (.ref 77), some (.int (Int32.ofNat k))] [] am_C0 h' o g Q T := by
    intro m
    induction m with
    | zero =>
      intro k h' hk hc hj
      have : k = 5 := by omega
      subst this
      exact ⟨h', hc, hj, fun d L xs o g Q T hq => sm_203_103_77_2 (am_iff (by decide) hq)⟩
    | succ m ih =>
      intro k h' hk hc hj
      obtain ⟨h1, g1, g2, g3⟩ := ih (k + 1) (am_set h' 103 k (h' 77 k)) (by omega) (fun c e => by rw [as_cell _ _ _ e]; exact hc c e) (fun j hj' => by
        rw [hc 77 (by decide)]
        by_cases e : j = k
        · subst e; rw [as_self]
        · rw [as_slot _ _ _ e]; exact hj j (by omega))
      refine ⟨h1, g1, g2, fun d L xs o g Q T hq => sm_203_103_77_2 (am_ift ?_ ⟨ix_n (by omega) (by decide), ?_⟩)⟩
      · show Int32.ofNat k < Int32.ofNat 5
        rw [nz_nlt (by omega) (by decide)]; omega
      · rw [nz_c k (by omega), nz_succ k]
        exact g3 d L xs o g Q T hq
  obtain ⟨h1, g1, g2, g3⟩ := key 5 0 h (by omega) (fun _ _ => rfl) (fun j hj => by omega)
  exact ⟨h1, g1, g2, fun d L xs o g Q T hq => sm_203_103_77 (g3 _ _ _ _ _ _ _ hq)⟩
theorem be_77_103 (h : am_M) : ∃ h1, (∀ c, c ≠ 77 → h1 c = h c) ∧ (∀ j, j < 5 → h1 77 j = h 103 j) ∧ mv 0 203 [some (.ref 77), some (.ref 103), none] h none h1 := by
  have key : ∀ (m k : Nat) (h' : am_M), k + m = 5 → (∀ c, c ≠ 77 → h' c = h c) → (∀ j, j < k → h' 77 j = h 103 j) → ∃ h1, (∀ c, c ≠ 77 → h1 c = h c) ∧ (∀ j, j < 5 → h1 77 j = h 103 j) ∧ ∀ (d L : Nat) (xs : Nat → Int32) (o : am_L) (g : Nat) (Q : Option Value → am_M → am_L → Nat → Prop) (T : Nat → am_M → am_L → Nat → Prop), Q none h1 o g → am_X L xs d 203 2 [some (.ref 77), some (.ref 103), some (.int (Int32.ofNat k))] [] am_C0 h' o g Q T := by
    intro m
    induction m with
    | zero =>
      intro k h' hk hc hj
      have : k = 5 := by omega
      subst this
      exact ⟨h', hc, hj, fun d L xs o g Q T hq => sm_203_77_103_2 (am_iff (by decide) hq)⟩
    | succ m ih =>
      intro k h' hk hc hj
      obtain ⟨h1, g1, g2, g3⟩ := ih (k + 1) (am_set h' 77 k (h' 103 k)) (by omega) (fun c e => by rw [as_cell _ _ _ e]; exact hc c e) (fun j hj' => by
        rw [hc 103 (by decide)]
        by_cases e : j = k
        · subst e; rw [as_self]
        · rw [as_slot _ _ _ e]; exact hj j (by omega))
      refine ⟨h1, g1, g2, fun d L xs o g Q T hq => sm_203_77_103_2 (am_ift ?_ ⟨ix_n (by omega) (by decide), ?_⟩)⟩
      · show Int32.ofNat k < Int32.ofNat 5
        rw [nz_nlt (by omega) (by decide)]; omega
      · rw [nz_c k (by omega), nz_succ k]
        exact g3 d L xs o g Q T hq
  obtain ⟨h1, g1, g2, g3⟩ := key 5 0 h (by omega) (fun _ _ => rfl) (fun j hj => by omega)
  exact ⟨h1, g1, g2, fun d L xs o g Q T hq => sm_203_77_103 (g3 _ _ _ _ _ _ _ hq)⟩
theorem be_104_79 (h : am_M) : ∃ h1, (∀ c, c ≠ 104 → h1 c = h c) ∧ (∀ j, j < 5 → h1 104 j = h 79 j) ∧ mv 0 203 [some (.ref 104), some (.ref 79), none] h none h1 := by
  have key : ∀ (m k : Nat) (h' : am_M), k + m = 5 → (∀ c, c ≠ 104 → h' c = h c) → (∀ j, j < k → h' 104 j = h 79 j) → ∃ h1, (∀ c, c ≠ 104 → h1 c = h c) ∧ (∀ j, j < 5 → h1 104 j = h 79 j) ∧ ∀ (d L : Nat) (xs : Nat → Int32) (o : am_L) (g : Nat) (Q : Option Value → am_M → am_L → Nat → Prop) (T : Nat → am_M → am_L → Nat → Prop), Q none h1 o g → am_X L xs d 203 2 [some (.ref 104), some (.ref 79), some (.int (Int32.ofNat k))] [] am_C0 h' o g Q T := by
    intro m
    induction m with
    | zero =>
      intro k h' hk hc hj
      have : k = 5 := by omega
      subst this
      exact ⟨h', hc, hj, fun d L xs o g Q T hq => sm_203_104_79_2 (am_iff (by decide) hq)⟩
    | succ m ih =>
      intro k h' hk hc hj
      obtain ⟨h1, g1, g2, g3⟩ := ih (k + 1) (am_set h' 104 k (h' 79 k)) (by omega) (fun c e => by rw [as_cell _ _ _ e]; exact hc c e) (fun j hj' => by
        rw [hc 79 (by decide)]
        by_cases e : j = k
        · subst e; rw [as_self]
        · rw [as_slot _ _ _ e]; exact hj j (by omega))
      refine ⟨h1, g1, g2, fun d L xs o g Q T hq => sm_203_104_79_2 (am_ift ?_ ⟨ix_n (by omega) (by decide), ?_⟩)⟩
      · show Int32.ofNat k < Int32.ofNat 5
        rw [nz_nlt (by omega) (by decide)]; omega
      · rw [nz_c k (by omega), nz_succ k]
        exact g3 d L xs o g Q T hq
  obtain ⟨h1, g1, g2, g3⟩ := key 5 0 h (by omega) (fun _ _ => rfl) (fun j hj => by omega)
  exact ⟨h1, g1, g2, fun d L xs o g Q T hq => sm_203_104_79 (g3 _ _ _ _ _ _ _ hq)⟩
theorem be_79_104 (h : am_M) : ∃ h1, (∀ c, c ≠ 79 → h1 c = h c) ∧ (∀ j, j < 5 → h1 79 j = h 104 j) ∧ mv 0 203 [some (.ref 79), some (.ref 104), none] h none h1 := by
  have key : ∀ (m k : Nat) (h' : am_M), k + m = 5 → (∀ c, c ≠ 79 → h' c = h c) → (∀ j, j < k → h' 79 j = h 104 j) → ∃ h1, (∀ c, c ≠ 79 → h1 c = h c) ∧ (∀ j, j < 5 → h1 79 j = h 104 j) ∧ ∀ (d L : Nat) (xs : Nat → Int32) (o : am_L) (g : Nat) (Q : Option Value → am_M → am_L → Nat → Prop) (T : Nat → am_M → am_L → Nat → Prop), Q none h1 o g → am_X L xs d 203 2 [some (.ref 79), some (.ref 104), some (.int (Int32.ofNat k))] [] am_C0 h' o g Q T := by
    intro m
    induction m with
    | zero =>
      intro k h' hk hc hj
      have : k = 5 := by omega
      subst this
      exact ⟨h', hc, hj, fun d L xs o g Q T hq => sm_203_79_104_2 (am_iff (by decide) hq)⟩
    | succ m ih =>
      intro k h' hk hc hj
      obtain ⟨h1, g1, g2, g3⟩ := ih (k + 1) (am_set h' 79 k (h' 104 k)) (by omega) (fun c e => by rw [as_cell _ _ _ e]; exact hc c e) (fun j hj' => by
        rw [hc 104 (by decide)]
        by_cases e : j = k
        · subst e; rw [as_self]
        · rw [as_slot _ _ _ e]; exact hj j (by omega))
      refine ⟨h1, g1, g2, fun d L xs o g Q T hq => sm_203_79_104_2 (am_ift ?_ ⟨ix_n (by omega) (by decide), ?_⟩)⟩
      · show Int32.ofNat k < Int32.ofNat 5
        rw [nz_nlt (by omega) (by decide)]; omega
      · rw [nz_c k (by omega), nz_succ k]
        exact g3 d L xs o g Q T hq
  obtain ⟨h1, g1, g2, g3⟩ := key 5 0 h (by omega) (fun _ _ => rfl) (fun j hj => by omega)
  exact ⟨h1, g1, g2, fun d L xs o g Q T hq => sm_203_79_104 (g3 _ _ _ _ _ _ _ hq)⟩
theorem be_105_80 (h : am_M) : ∃ h1, (∀ c, c ≠ 105 → h1 c = h c) ∧ (∀ j, j < 5 → h1 105 j = h 80 j) ∧ mv 0 203 [some (.ref 105), some (.ref 80), none] h none h1 := by
  have key : ∀ (m k : Nat) (h' : am_M), k + m = 5 → (∀ c, c ≠ 105 → h' c = h c) → (∀ j, j < k → h' 105 j = h 80 j) → ∃ h1, (∀ c, c ≠ 105 → h1 c = h c) ∧ (∀ j, j < 5 → h1 105 j = h 80 j) ∧ ∀ (d L : Nat) (xs : Nat → Int32) (o : am_L) (g : Nat) (Q : Option Value → am_M → am_L → Nat → Prop) (T : Nat → am_M → am_L → Nat → Prop), Q none h1 o g → am_X L xs d 203 2 [some (.ref 105), some (.ref 80), some (.int (Int32.ofNat k))] [] am_C0 h' o g Q T := by
    intro m
    induction m with
    | zero =>
      intro k h' hk hc hj
      have : k = 5 := by omega
      subst this
      exact ⟨h', hc, hj, fun d L xs o g Q T hq => sm_203_105_80_2 (am_iff (by decide) hq)⟩
    | succ m ih =>
      intro k h' hk hc hj
      obtain ⟨h1, g1, g2, g3⟩ := ih (k + 1) (am_set h' 105 k (h' 80 k)) (by omega) (fun c e => by rw [as_cell _ _ _ e]; exact hc c e) (fun j hj' => by
        rw [hc 80 (by decide)]
        by_cases e : j = k
        · subst e; rw [as_self]
        · rw [as_slot _ _ _ e]; exact hj j (by omega))
      refine ⟨h1, g1, g2, fun d L xs o g Q T hq => sm_203_105_80_2 (am_ift ?_ ⟨ix_n (by omega) (by decide), ?_⟩)⟩
      · show Int32.ofNat k < Int32.ofNat 5
        rw [nz_nlt (by omega) (by decide)]; omega
      · rw [nz_c k (by omega), nz_succ k]
        exact g3 d L xs o g Q T hq
  obtain ⟨h1, g1, g2, g3⟩ := key 5 0 h (by omega) (fun _ _ => rfl) (fun j hj => by omega)
  exact ⟨h1, g1, g2, fun d L xs o g Q T hq => sm_203_105_80 (g3 _ _ _ _ _ _ _ hq)⟩
theorem be_80_105 (h : am_M) : ∃ h1, (∀ c, c ≠ 80 → h1 c = h c) ∧ (∀ j, j < 5 → h1 80 j = h 105 j) ∧ mv 0 203 [some (.ref 80), some (.ref 105), none] h none h1 := by
  have key : ∀ (m k : Nat) (h' : am_M), k + m = 5 → (∀ c, c ≠ 80 → h' c = h c) → (∀ j, j < k → h' 80 j = h 105 j) → ∃ h1, (∀ c, c ≠ 80 → h1 c = h c) ∧ (∀ j, j < 5 → h1 80 j = h 105 j) ∧ ∀ (d L : Nat) (xs : Nat → Int32) (o : am_L) (g : Nat) (Q : Option Value → am_M → am_L → Nat → Prop) (T : Nat → am_M → am_L → Nat → Prop), Q none h1 o g → am_X L xs d 203 2 [some (.ref 80), some (.ref 105), some (.int (Int32.ofNat k))] [] am_C0 h' o g Q T := by
    intro m
    induction m with
    | zero =>
      intro k h' hk hc hj
      have : k = 5 := by omega
      subst this
      exact ⟨h', hc, hj, fun d L xs o g Q T hq => sm_203_80_105_2 (am_iff (by decide) hq)⟩
    | succ m ih =>
      intro k h' hk hc hj
      obtain ⟨h1, g1, g2, g3⟩ := ih (k + 1) (am_set h' 80 k (h' 105 k)) (by omega) (fun c e => by rw [as_cell _ _ _ e]; exact hc c e) (fun j hj' => by
        rw [hc 105 (by decide)]
        by_cases e : j = k
        · subst e; rw [as_self]
        · rw [as_slot _ _ _ e]; exact hj j (by omega))
      refine ⟨h1, g1, g2, fun d L xs o g Q T hq => sm_203_80_105_2 (am_ift ?_ ⟨ix_n (by omega) (by decide), ?_⟩)⟩
      · show Int32.ofNat k < Int32.ofNat 5
        rw [nz_nlt (by omega) (by decide)]; omega
      · rw [nz_c k (by omega), nz_succ k]
        exact g3 d L xs o g Q T hq
  obtain ⟨h1, g1, g2, g3⟩ := key 5 0 h (by omega) (fun _ _ => rfl) (fun j hj => by omega)
  exact ⟨h1, g1, g2, fun d L xs o g Q T hq => sm_203_80_105 (g3 _ _ _ _ _ _ _ hq)⟩
theorem be_106_78 (h : am_M) : ∃ h1, (∀ c, c ≠ 106 → h1 c = h c) ∧ (∀ j, j < 3 → h1 106 j = h 78 j) ∧ mv 0 203 [some (.ref 106), some (.ref 78), none] h none h1 := by
  have key : ∀ (m k : Nat) (h' : am_M), k + m = 3 → (∀ c, c ≠ 106 → h' c = h c) → (∀ j, j < k → h' 106 j = h 78 j) → ∃ h1, (∀ c, c ≠ 106 → h1 c = h c) ∧ (∀ j, j < 3 → h1 106 j = h 78 j) ∧ ∀ (d L : Nat) (xs : Nat → Int32) (o : am_L) (g : Nat) (Q : Option Value → am_M → am_L → Nat → Prop) (T : Nat → am_M → am_L → Nat → Prop), Q none h1 o g → am_X L xs d 203 2 [some (.ref 106), some (.ref 78), some (.int (Int32.ofNat k))] [] am_C0 h' o g Q T := by
    intro m
    induction m with
    | zero =>
      intro k h' hk hc hj
      have : k = 3 := by omega
      subst this
      exact ⟨h', hc, hj, fun d L xs o g Q T hq => sm_203_106_78_2 (am_iff (by decide) hq)⟩
    | succ m ih =>
      intro k h' hk hc hj
      obtain ⟨h1, g1, g2, g3⟩ := ih (k + 1) (am_set h' 106 k (h' 78 k)) (by omega) (fun c e => by rw [as_cell _ _ _ e]; exact hc c e) (fun j hj' => by
        rw [hc 78 (by decide)]
        by_cases e : j = k
        · subst e; rw [as_self]
        · rw [as_slot _ _ _ e]; exact hj j (by omega))
      refine ⟨h1, g1, g2, fun d L xs o g Q T hq => sm_203_106_78_2 (am_ift ?_ ⟨ix_n (by omega) (by decide), ?_⟩)⟩
      · show Int32.ofNat k < Int32.ofNat 3
        rw [nz_nlt (by omega) (by decide)]; omega
      · rw [nz_c k (by omega), nz_succ k]
        exact g3 d L xs o g Q T hq
  obtain ⟨h1, g1, g2, g3⟩ := key 3 0 h (by omega) (fun _ _ => rfl) (fun j hj => by omega)
  exact ⟨h1, g1, g2, fun d L xs o g Q T hq => sm_203_106_78 (g3 _ _ _ _ _ _ _ hq)⟩
theorem be_78_106 (h : am_M) : ∃ h1, (∀ c, c ≠ 78 → h1 c = h c) ∧ (∀ j, j < 3 → h1 78 j = h 106 j) ∧ mv 0 203 [some (.ref 78), some (.ref 106), none] h none h1 := by
  have key : ∀ (m k : Nat) (h' : am_M), k + m = 3 → (∀ c, c ≠ 78 → h' c = h c) → (∀ j, j < k → h' 78 j = h 106 j) → ∃ h1, (∀ c, c ≠ 78 → h1 c = h c) ∧ (∀ j, j < 3 → h1 78 j = h 106 j) ∧ ∀ (d L : Nat) (xs : Nat → Int32) (o : am_L) (g : Nat) (Q : Option Value → am_M → am_L → Nat → Prop) (T : Nat → am_M → am_L → Nat → Prop), Q none h1 o g → am_X L xs d 203 2 [some (.ref 78), some (.ref 106), some (.int (Int32.ofNat k))] [] am_C0 h' o g Q T := by
    intro m
    induction m with
    | zero =>
      intro k h' hk hc hj
      have : k = 3 := by omega
      subst this
      exact ⟨h', hc, hj, fun d L xs o g Q T hq => sm_203_78_106_2 (am_iff (by decide) hq)⟩
    | succ m ih =>
      intro k h' hk hc hj
      obtain ⟨h1, g1, g2, g3⟩ := ih (k + 1) (am_set h' 78 k (h' 106 k)) (by omega) (fun c e => by rw [as_cell _ _ _ e]; exact hc c e) (fun j hj' => by
        rw [hc 106 (by decide)]
        by_cases e : j = k
        · subst e; rw [as_self]
        · rw [as_slot _ _ _ e]; exact hj j (by omega))
      refine ⟨h1, g1, g2, fun d L xs o g Q T hq => sm_203_78_106_2 (am_ift ?_ ⟨ix_n (by omega) (by decide), ?_⟩)⟩
      · show Int32.ofNat k < Int32.ofNat 3
        rw [nz_nlt (by omega) (by decide)]; omega
      · rw [nz_c k (by omega), nz_succ k]
        exact g3 d L xs o g Q T hq
  obtain ⟨h1, g1, g2, g3⟩ := key 3 0 h (by omega) (fun _ _ => rfl) (fun j hj => by omega)
  exact ⟨h1, g1, g2, fun d L xs o g Q T hq => sm_203_78_106 (g3 _ _ _ _ _ _ _ hq)⟩
/-- a boolean as it is stored -/
def nbq (x : Int32) : Int32 := vp_nar .boolean x
theorem nbq_b {x : Int32} (h : x = 0 ∨ x = 1) : nbq x = x := nb_bool h
theorem lp_202 (h : am_M) : ∃ h1, (∀ c, c ≠ 107 → h1 c = h c) ∧ (∀ j, j < 80 → h1 107 j = nbq (h 87 j)) ∧ ∀ (d L : Nat) (xs : Nat → Int32) (o : am_L) (g : Nat) (Q : Option Value → am_M → am_L → Nat → Prop) (T : Nat → am_M → am_L → Nat → Prop), Q none h1 o g → am_X L xs d 202 119 [some (.ref 64), some (.int 0)] [] am_C0 h o g Q T := by
  have key : ∀ (m k : Nat) (h' : am_M), k + m = 80 → (∀ c, c ≠ 107 → h' c = h c) → (∀ j, j < k → h' 107 j = nbq (h 87 j)) → ∃ h1, (∀ c, c ≠ 107 → h1 c = h c) ∧ (∀ j, j < 80 → h1 107 j = nbq (h 87 j)) ∧ ∀ (d L : Nat) (xs : Nat → Int32) (o : am_L) (g : Nat) (Q : Option Value → am_M → am_L → Nat → Prop) (T : Nat → am_M → am_L → Nat → Prop), Q none h1 o g → am_X L xs d 202 119 [some (.ref 64), some (.int (Int32.ofNat k))] [] am_C0 h' o g Q T := by
    intro m
    induction m with
    | zero =>
      intro k h' hk hc hj
      have : k = 80 := by omega
      subst this
      exact ⟨h', hc, hj, fun d L xs o g Q T hq => sm_202_119 (am_iff (by decide) hq)⟩
    | succ m ih =>
      intro k h' hk hc hj
      obtain ⟨h1, g1, g2, g3⟩ := ih (k + 1) (am_set h' 107 k (vp_nar .boolean (h' 87 k))) (by omega) (fun c e => by rw [as_cell _ _ _ e]; exact hc c e) (fun j hj' => by
        rw [hc 87 (by decide)]
        by_cases e : j = k
        · subst e; rw [as_self]; rfl
        · rw [as_slot _ _ _ e]; exact hj j (by omega))
      refine ⟨h1, g1, g2, fun d L xs o g Q T hq => sm_202_119 (am_ift ?_ ⟨ix_n (by omega) (by decide), ?_⟩)⟩
      · show Int32.ofNat k < Int32.ofNat 80
        rw [nz_nlt (by omega) (by decide)]; omega
      · rw [nz_c k (by omega), nz_succ k]
        exact g3 d L xs o g Q T hq
  exact key 80 0 h (by omega) (fun _ _ => rfl) (fun j hj => by omega)
theorem lp_204 (h : am_M) : ∃ h1, (∀ c, c ≠ 87 → h1 c = h c) ∧ (∀ j, j < 80 → h1 87 j = nbq (h 107 j)) ∧ ∀ (d L : Nat) (xs : Nat → Int32) (o : am_L) (g : Nat) (Q : Option Value → am_M → am_L → Nat → Prop) (T : Nat → am_M → am_L → Nat → Prop), Q (some (.int 1)) h1 o g → am_X L xs d 204 123 [some (.ref 64), some (.int 0)] [] am_C0 h o g Q T := by
  have key : ∀ (m k : Nat) (h' : am_M), k + m = 80 → (∀ c, c ≠ 87 → h' c = h c) → (∀ j, j < k → h' 87 j = nbq (h 107 j)) → ∃ h1, (∀ c, c ≠ 87 → h1 c = h c) ∧ (∀ j, j < 80 → h1 87 j = nbq (h 107 j)) ∧ ∀ (d L : Nat) (xs : Nat → Int32) (o : am_L) (g : Nat) (Q : Option Value → am_M → am_L → Nat → Prop) (T : Nat → am_M → am_L → Nat → Prop), Q (some (.int 1)) h1 o g → am_X L xs d 204 123 [some (.ref 64), some (.int (Int32.ofNat k))] [] am_C0 h' o g Q T := by
    intro m
    induction m with
    | zero =>
      intro k h' hk hc hj
      have : k = 80 := by omega
      subst this
      exact ⟨h', hc, hj, fun d L xs o g Q T hq => sm_204_123 (am_iff (by decide) hq)⟩
    | succ m ih =>
      intro k h' hk hc hj
      obtain ⟨h1, g1, g2, g3⟩ := ih (k + 1) (am_set h' 87 k (vp_nar .boolean (h' 107 k))) (by omega) (fun c e => by rw [as_cell _ _ _ e]; exact hc c e) (fun j hj' => by
        rw [hc 107 (by decide)]
        by_cases e : j = k
        · subst e; rw [as_self]; rfl
        · rw [as_slot _ _ _ e]; exact hj j (by omega))
      refine ⟨h1, g1, g2, fun d L xs o g Q T hq => sm_204_123 (am_ift ?_ ⟨ix_n (by omega) (by decide), ?_⟩)⟩
      · show Int32.ofNat k < Int32.ofNat 80
        rw [nz_nlt (by omega) (by decide)]; omega
      · rw [nz_c k (by omega), nz_succ k]
        exact g3 d L xs o g Q T hq
  exact key 80 0 h (by omega) (fun _ _ => rfl) (fun j hj => by omega)
theorem cp_21_34_23 (h : am_M) {N : Nat} (hN : N ≤ 80) (hE : h 23 0 = Int32.ofNat N) : ∃ h1, (∀ c, ¬ (c = 34 ∨ c = 35 ∨ c = 36 ∨ c = 37 ∨ c = 38 ∨ c = 39 ∨ c = 40 ∨ c = 41 ∨ c = 42 ∨ c = 43 ∨ c = 44) → h1 c = h c) ∧ (∀ j, ¬ j = 0 → h1 34 j = h 34 j) ∧ h1 34 0 = Int32.ofNat N ∧ (∀ j, j < N → h1 35 j = h 24 j ∧ h1 36 j = h 25 j ∧ h1 37 j = h 26 j ∧ h1 38 j = h 27 j ∧ h1 39 j = nbq (h 28 j) ∧ h1 40 j = h 29 j) ∧ (∀ j, j < 5 → h1 41 j = h 30 j ∧ h1 42 j = h 31 j ∧ h1 43 j = h 32 j) ∧ (∀ j, j < 3 → h1 44 j = h 33 j) ∧ mv 0 21 [some (.ref 34), some (.ref 23), none] h none h1 := by
  obtain ⟨h0, hh0⟩ : ∃ h0, h0 = am_set h 34 0 (h 23 0) := ⟨_, rfl⟩
  have hE0 : h0 34 0 = Int32.ofNat N := by rw [hh0, as_self, hE]
  have key : ∀ (m k : Nat) (h' : am_M), k + m = N → (∀ c, ¬ (c = 35 ∨ c = 36 ∨ c = 37 ∨ c = 38 ∨ c = 39 ∨ c = 40) → h' c = h0 c) ∧ (∀ j, j < k → h' 35 j = h0 24 j ∧ h' 36 j = h0 25 j ∧ h' 37 j = h0 26 j ∧ h' 38 j = h0 27 j ∧ h' 39 j = nbq (h0 28 j) ∧ h' 40 j = h0 29 j) → ∃ h1, ((∀ c, ¬ (c = 35 ∨ c = 36 ∨ c = 37 ∨ c = 38 ∨ c = 39 ∨ c = 40) → h1 c = h0 c) ∧ (∀ j, j < N → h1 35 j = h0 24 j ∧ h1 36 j = h0 25 j ∧ h1 37 j = h0 26 j ∧ h1 38 j = h0 27 j ∧ h1 39 j = nbq (h0 28 j) ∧ h1 40 j = h0 29 j)) ∧ ∀ (d L : Nat) (xs : Nat → Int32) (o : am_L) (g : Nat) (Q : Option Value → am_M → am_L → Nat → Prop) (T : Nat → am_M → am_L → Nat → Prop), Q none (am_cpy (am_cpy (am_cpy (am_cpy h1 30 41 0 0 5) 31 42 0 0 5) 32 43 0 0 5) 33 44 0 0 3) o g → am_X L xs d 21 10 [some (.ref 34), some (.ref 23), some (.int (Int32.ofNat k))] [] am_C0 h' o g Q T := by
    intro m
    induction m with
    | zero =>
      intro k h' hk hi
      have : k = N := by omega
      subst this
      refine ⟨h', hi, fun d L xs o g Q T hq => sm_21_34_23_10 (am_iff ?_ hq)⟩
      rw [hi.1 34 (by decide), hE0, nz_nlt (by omega) (by omega)]; omega
    | succ m ih =>
      intro k h' hk hi
      obtain ⟨h1, g1, g3⟩ := ih (k + 1) (am_set (am_set (am_set (am_set (am_set (am_set h' 35 k (h' 24 k)) 36 k (h' 25 k)) 37 k (h' 26 k)) 38 k (h' 27 k)) 39 k (vp_nar .boolean (h' 28 k))) 40 k (h' 29 k)) (by omega) ⟨fun c e => by
          simp only [not_or] at e
          rw [as_cell _ _ _ (by simp [e]), as_cell _ _ _ (by simp [e]), as_cell _ _ _ (by simp [e]), as_cell _ _ _ (by simp [e]), as_cell _ _ _ (by simp [e]), as_cell _ _ _ (by simp [e])]
          exact hi.1 c (by simp only [not_or]; exact e), fun j hj => by
          by_cases e : j = k
          · subst e
            exact ⟨(by simp only [as_get]; simp; exact congrFun (hi.1 24 (by decide)) j), (by simp only [as_get]; simp; exact congrFun (hi.1 25 (by decide)) j), (by simp only [as_get]; simp; exact congrFun (hi.1 26 (by decide)) j), (by simp only [as_get]; simp; exact congrFun (hi.1 27 (by decide)) j), (by simp only [as_get]; simp; exact congrArg nbq (congrFun (hi.1 28 (by decide)) j)), (by simp only [as_get]; simp; exact congrFun (hi.1 29 (by decide)) j)⟩
          · have := hi.2 j (by omega)
            simp only [as_get, e, and_false, if_false]
            exact this⟩
      refine ⟨h1, g1, fun d L xs o g Q T hq => sm_21_34_23_10 (am_ift ?_ ⟨ix_n (by omega) (by decide), ?_⟩)⟩
      · rw [hi.1 34 (by decide), hE0, nz_nlt (by omega) (by omega)]; omega
      · rw [nz_c k (by omega), nz_succ k]
        exact g3 d L xs o g Q T hq
  obtain ⟨h1, g1, g3⟩ := key N 0 h0 (by omega) ⟨fun _ _ => rfl, fun j hj => by omega⟩
  refine ⟨am_cpy (am_cpy (am_cpy (am_cpy h1 30 41 0 0 5) 31 42 0 0 5) 32 43 0 0 5) 33 44 0 0 3, fun c e => ?_, fun j e => ?_, ?_, fun j hj => ?_, fun j hj => ?_, fun j hj => ?_, fun d L xs o g Q T hq => sm_21_34_23 (hh0 ▸ g3 _ _ _ _ _ _ _ hq)⟩
  · simp only [not_or] at e
    simp only [am_cpy, va_up, e, if_false]
    rw [g1.1 c (by simp only [not_or]; simp [e]), hh0, as_cell _ _ _ (by simp [e])]
  · show h1 34 j = h 34 j
    rw [g1.1 34 (by decide), hh0, as_slot _ _ _ e]
  · show h1 34 0 = _
    rw [g1.1 34 (by decide), hE0]
  · have := g1.2 j hj
    rw [hh0] at this
    exact this
  · have e : ∀ c, ¬ (c = 35 ∨ c = 36 ∨ c = 37 ∨ c = 38 ∨ c = 39 ∨ c = 40) → h1 c = h0 c := g1.1
    refine ⟨?_, ?_, ?_⟩
    · show va_cpy (h1 30) (h1 41) 0 0 5 j = h 30 j
      unfold va_cpy
      rw [if_pos (by omega), g1.1 30 (by decide), hh0]
      simp only [Nat.zero_add, Nat.sub_zero]
      rfl
    · show va_cpy (h1 31) (h1 42) 0 0 5 j = h 31 j
      unfold va_cpy
      rw [if_pos (by omega), g1.1 31 (by decide), hh0]
      simp only [Nat.zero_add, Nat.sub_zero]
      rfl
    · show va_cpy (h1 32) (h1 43) 0 0 5 j = h 32 j
      unfold va_cpy
      rw [if_pos (by omega), g1.1 32 (by decide), hh0]
      simp only [Nat.zero_add, Nat.sub_zero]
      rfl
  · show va_cpy (h1 33) (h1 44) 0 0 3 j = h 33 j
    unfold va_cpy
    rw [if_pos (by omega), g1.1 33 (by decide), hh0]
    simp only [Nat.zero_add, Nat.sub_zero]
    rfl
theorem cp_21_23_34 (h : am_M) {N : Nat} (hN : N ≤ 80) (hE : h 34 0 = Int32.ofNat N) : ∃ h1, (∀ c, ¬ (c = 23 ∨ c = 24 ∨ c = 25 ∨ c = 26 ∨ c = 27 ∨ c = 28 ∨ c = 29 ∨ c = 30 ∨ c = 31 ∨ c = 32 ∨ c = 33) → h1 c = h c) ∧ (∀ j, ¬ j = 0 → h1 23 j = h 23 j) ∧ h1 23 0 = Int32.ofNat N ∧ (∀ j, j < N → h1 24 j = h 35 j ∧ h1 25 j = h 36 j ∧ h1 26 j = h 37 j ∧ h1 27 j = h 38 j ∧ h1 28 j = nbq (h 39 j) ∧ h1 29 j = h 40 j) ∧ (∀ j, j < 5 → h1 30 j = h 41 j ∧ h1 31 j = h 42 j ∧ h1 32 j = h 43 j) ∧ (∀ j, j < 3 → h1 33 j = h 44 j) ∧ mv 0 21 [some (.ref 23), some (.ref 34), none] h none h1 := by
  obtain ⟨h0, hh0⟩ : ∃ h0, h0 = am_set h 23 0 (h 34 0) := ⟨_, rfl⟩
  have hE0 : h0 23 0 = Int32.ofNat N := by rw [hh0, as_self, hE]
  have key : ∀ (m k : Nat) (h' : am_M), k + m = N → (∀ c, ¬ (c = 24 ∨ c = 25 ∨ c = 26 ∨ c = 27 ∨ c = 28 ∨ c = 29) → h' c = h0 c) ∧ (∀ j, j < k → h' 24 j = h0 35 j ∧ h' 25 j = h0 36 j ∧ h' 26 j = h0 37 j ∧ h' 27 j = h0 38 j ∧ h' 28 j = nbq (h0 39 j) ∧ h' 29 j = h0 40 j) → ∃ h1, ((∀ c, ¬ (c = 24 ∨ c = 25 ∨ c = 26 ∨ c = 27 ∨ c = 28 ∨ c = 29) → h1 c = h0 c) ∧ (∀ j, j < N → h1 24 j = h0 35 j ∧ h1 25 j = h0 36 j ∧ h1 26 j = h0 37 j ∧ h1 27 j = h0 38 j ∧ h1 28 j = nbq (h0 39 j) ∧ h1 29 j = h0 40 j)) ∧ ∀ (d L : Nat) (xs : Nat → Int32) (o : am_L) (g : Nat) (Q : Option Value → am_M → am_L → Nat → Prop) (T : Nat → am_M → am_L → Nat → Prop), Q none (am_cpy (am_cpy (am_cpy (am_cpy h1 41 30 0 0 5) 42 31 0 0 5) 43 32 0 0 5) 44 33 0 0 3) o g → am_X L xs d 21 10 [some (.ref 23), some (.ref 34), some (.int (Int32.ofNat k))] [] am_C0 h' o g Q T := by
    intro m
    induction m with
    | zero =>
      intro k h' hk hi
      have : k = N := by omega
      subst this
      refine ⟨h', hi, fun d L xs o g Q T hq => sm_21_23_34_10 (am_iff ?_ hq)⟩
      rw [hi.1 23 (by decide), hE0, nz_nlt (by omega) (by omega)]; omega
    | succ m ih =>
      intro k h' hk hi
      obtain ⟨h1, g1, g3⟩ := ih (k + 1) (am_set (am_set (am_set (am_set (am_set (am_set h' 24 k (h' 35 k)) 25 k (h' 36 k)) 26 k (h' 37 k)) 27 k (h' 38 k)) 28 k (vp_nar .boolean (h' 39 k))) 29 k (h' 40 k)) (by omega) ⟨fun c e => by
          simp only [not_or] at e
          rw [as_cell _ _ _ (by simp [e]), as_cell _ _ _ (by simp [e]), as_cell _ _ _ (by simp [e]), as_cell _ _ _ (by simp [e]), as_cell _ _ _ (by simp [e]), as_cell _ _ _ (by simp [e])]
          exact hi.1 c (by simp only [not_or]; exact e), fun j hj => by
          by_cases e : j = k
          · subst e
            exact ⟨(by simp only [as_get]; simp; exact congrFun (hi.1 35 (by decide)) j), (by simp only [as_get]; simp; exact congrFun (hi.1 36 (by decide)) j), (by simp only [as_get]; simp; exact congrFun (hi.1 37 (by decide)) j), (by simp only [as_get]; simp; exact congrFun (hi.1 38 (by decide)) j), (by simp only [as_get]; simp; exact congrArg nbq (congrFun (hi.1 39 (by decide)) j)), (by simp only [as_get]; simp; exact congrFun (hi.1 40 (by decide)) j)⟩
          · have := hi.2 j (by omega)
            simp only [as_get, e, and_false, if_false]
            exact this⟩
      refine ⟨h1, g1, fun d L xs o g Q T hq => sm_21_23_34_10 (am_ift ?_ ⟨ix_n (by omega) (by decide), ?_⟩)⟩
      · rw [hi.1 23 (by decide), hE0, nz_nlt (by omega) (by omega)]; omega
      · rw [nz_c k (by omega), nz_succ k]
        exact g3 d L xs o g Q T hq
  obtain ⟨h1, g1, g3⟩ := key N 0 h0 (by omega) ⟨fun _ _ => rfl, fun j hj => by omega⟩
  refine ⟨am_cpy (am_cpy (am_cpy (am_cpy h1 41 30 0 0 5) 42 31 0 0 5) 43 32 0 0 5) 44 33 0 0 3, fun c e => ?_, fun j e => ?_, ?_, fun j hj => ?_, fun j hj => ?_, fun j hj => ?_, fun d L xs o g Q T hq => sm_21_23_34 (hh0 ▸ g3 _ _ _ _ _ _ _ hq)⟩
  · simp only [not_or] at e
    simp only [am_cpy, va_up, e, if_false]
    rw [g1.1 c (by simp only [not_or]; simp [e]), hh0, as_cell _ _ _ (by simp [e])]
  · show h1 23 j = h 23 j
    rw [g1.1 23 (by decide), hh0, as_slot _ _ _ e]
  · show h1 23 0 = _
    rw [g1.1 23 (by decide), hE0]
  · have := g1.2 j hj
    rw [hh0] at this
    exact this
  · have e : ∀ c, ¬ (c = 24 ∨ c = 25 ∨ c = 26 ∨ c = 27 ∨ c = 28 ∨ c = 29) → h1 c = h0 c := g1.1
    refine ⟨?_, ?_, ?_⟩
    · show va_cpy (h1 41) (h1 30) 0 0 5 j = h 41 j
      unfold va_cpy
      rw [if_pos (by omega), g1.1 41 (by decide), hh0]
      simp only [Nat.zero_add, Nat.sub_zero]
      rfl
    · show va_cpy (h1 42) (h1 31) 0 0 5 j = h 42 j
      unfold va_cpy
      rw [if_pos (by omega), g1.1 42 (by decide), hh0]
      simp only [Nat.zero_add, Nat.sub_zero]
      rfl
    · show va_cpy (h1 43) (h1 32) 0 0 5 j = h 43 j
      unfold va_cpy
      rw [if_pos (by omega), g1.1 43 (by decide), hh0]
      simp only [Nat.zero_add, Nat.sub_zero]
      rfl
  · show va_cpy (h1 44) (h1 33) 0 0 3 j = h 44 j
    unfold va_cpy
    rw [if_pos (by omega), g1.1 44 (by decide), hh0]
    simp only [Nat.zero_add, Nat.sub_zero]
    rfl
